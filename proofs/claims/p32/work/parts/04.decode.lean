theorem dX0_init_0 : decode cX0_init 0 = .ok (.aload_n 0, 1) := by decide +kernel
theorem dX0_init_1 : decode cX0_init 1 = .ok (.invokespecial 1, 3) := by decide +kernel
theorem dX0_init_4 : decode cX0_init 4 = .ok (.return_, 1) := by decide +kernel
theorem dX0_begin_0 : decode cX0_begin 0 = .ok (.aload_n 0, 1) := by decide +kernel
theorem dX0_begin_1 : decode cX0_begin 1 = .ok (.iload_n 1, 1) := by decide +kernel
theorem dX0_begin_2 : decode cX0_begin 2 = .ok (.iload_n 2, 1) := by decide +kernel
theorem dX0_begin_3 : decode cX0_begin 3 = .ok (.invokevirtual 7, 3) := by decide +kernel
theorem dX0_begin_6 : decode cX0_begin 6 = .ok (.aload_n 0, 1) := by decide +kernel
theorem dX0_begin_7 : decode cX0_begin 7 = .ok (.iconst 0, 1) := by decide +kernel
theorem dX0_begin_8 : decode cX0_begin 8 = .ok (.putfield 13, 3) := by decide +kernel
theorem dX0_begin_11 : decode cX0_begin 11 = .ok (.aload_n 0, 1) := by decide +kernel
theorem dX0_begin_12 : decode cX0_begin 12 = .ok (.iconst 0, 1) := by decide +kernel
theorem dX0_begin_13 : decode cX0_begin 13 = .ok (.putfield 17, 3) := by decide +kernel
theorem dX0_begin_16 : decode cX0_begin 16 = .ok (.return_, 1) := by decide +kernel
theorem dX0_copyFrom_0 : decode cX0_copyFrom 0 = .ok (.aload_n 0, 1) := by decide +kernel
theorem dX0_copyFrom_1 : decode cX0_copyFrom 1 = .ok (.aload_n 1, 1) := by decide +kernel
theorem dX0_copyFrom_2 : decode cX0_copyFrom 2 = .ok (.getfield 20, 3) := by decide +kernel
theorem dX0_copyFrom_5 : decode cX0_copyFrom 5 = .ok (.aload_n 1, 1) := by decide +kernel
theorem dX0_copyFrom_6 : decode cX0_copyFrom 6 = .ok (.getfield 23, 3) := by decide +kernel
theorem dX0_copyFrom_9 : decode cX0_copyFrom 9 = .ok (.invokevirtual 7, 3) := by decide +kernel
theorem dX0_copyFrom_12 : decode cX0_copyFrom 12 = .ok (.aload_n 0, 1) := by decide +kernel
theorem dX0_copyFrom_13 : decode cX0_copyFrom 13 = .ok (.aload_n 1, 1) := by decide +kernel
theorem dX0_copyFrom_14 : decode cX0_copyFrom 14 = .ok (.getfield 13, 3) := by decide +kernel
theorem dX0_copyFrom_17 : decode cX0_copyFrom 17 = .ok (.putfield 13, 3) := by decide +kernel
theorem dX0_copyFrom_20 : decode cX0_copyFrom 20 = .ok (.aload_n 0, 1) := by decide +kernel
theorem dX0_copyFrom_21 : decode cX0_copyFrom 21 = .ok (.aload_n 1, 1) := by decide +kernel
theorem dX0_copyFrom_22 : decode cX0_copyFrom 22 = .ok (.getfield 17, 3) := by decide +kernel
theorem dX0_copyFrom_25 : decode cX0_copyFrom 25 = .ok (.putfield 17, 3) := by decide +kernel
theorem dX0_copyFrom_28 : decode cX0_copyFrom 28 = .ok (.return_, 1) := by decide +kernel
theorem dX0_haveLed_0 : decode cX0_haveLed 0 = .ok (.aload_n 0, 1) := by decide +kernel
theorem dX0_haveLed_1 : decode cX0_haveLed 1 = .ok (.dup, 1) := by decide +kernel
theorem dX0_haveLed_2 : decode cX0_haveLed 2 = .ok (.getfield 13, 3) := by decide +kernel
theorem dX0_haveLed_5 : decode cX0_haveLed 5 = .ok (.iconst 1, 1) := by decide +kernel
theorem dX0_haveLed_6 : decode cX0_haveLed 6 = .ok (.iadd, 1) := by decide +kernel
theorem dX0_haveLed_7 : decode cX0_haveLed 7 = .ok (.putfield 13, 3) := by decide +kernel
theorem dX0_haveLed_10 : decode cX0_haveLed 10 = .ok (.aload_n 0, 1) := by decide +kernel
theorem dX0_haveLed_11 : decode cX0_haveLed 11 = .ok (.dup, 1) := by decide +kernel
theorem dX0_haveLed_12 : decode cX0_haveLed 12 = .ok (.getfield 17, 3) := by decide +kernel
theorem dX0_haveLed_15 : decode cX0_haveLed 15 = .ok (.iload_n 1, 1) := by decide +kernel
theorem dX0_haveLed_16 : decode cX0_haveLed 16 = .ok (.iadd, 1) := by decide +kernel
theorem dX0_haveLed_17 : decode cX0_haveLed 17 = .ok (.putfield 17, 3) := by decide +kernel
theorem dX0_haveLed_20 : decode cX0_haveLed 20 = .ok (.return_, 1) := by decide +kernel
theorem dX0_certify_0 : decode cX0_certify 0 = .ok (.aload_n 0, 1) := by decide +kernel
theorem dX0_certify_1 : decode cX0_certify 1 = .ok (.iload_n 1, 1) := by decide +kernel
theorem dX0_certify_2 : decode cX0_certify 2 = .ok (.putfield 20, 3) := by decide +kernel
theorem dX0_certify_5 : decode cX0_certify 5 = .ok (.aload_n 0, 1) := by decide +kernel
theorem dX0_certify_6 : decode cX0_certify 6 = .ok (.iload_n 2, 1) := by decide +kernel
theorem dX0_certify_7 : decode cX0_certify 7 = .ok (.putfield 23, 3) := by decide +kernel
theorem dX0_certify_10 : decode cX0_certify 10 = .ok (.return_, 1) := by decide +kernel
theorem dX0_isValidOn_0 : decode cX0_isValidOn 0 = .ok (.iload_n 1, 1) := by decide +kernel
theorem dX0_isValidOn_1 : decode cX0_isValidOn 1 = .ok (.aload_n 0, 1) := by decide +kernel
theorem dX0_isValidOn_2 : decode cX0_isValidOn 2 = .ok (.getfield 23, 3) := by decide +kernel
theorem dX0_isValidOn_5 : decode cX0_isValidOn 5 = .ok (.if_icmp .gt 7, 3) := by decide +kernel
theorem dX0_isValidOn_8 : decode cX0_isValidOn 8 = .ok (.iconst 1, 1) := by decide +kernel
theorem dX0_isValidOn_9 : decode cX0_isValidOn 9 = .ok (.goto 4, 3) := by decide +kernel
theorem dX0_isValidOn_12 : decode cX0_isValidOn 12 = .ok (.iconst 0, 1) := by decide +kernel
theorem dX0_isValidOn_13 : decode cX0_isValidOn 13 = .ok (.ireturn, 1) := by decide +kernel
theorem dX1_init_0 : decode cX1_init 0 = .ok (.aload_n 0, 1) := by decide +kernel
theorem dX1_init_1 : decode cX1_init 1 = .ok (.invokespecial 3, 3) := by decide +kernel
theorem dX1_init_4 : decode cX1_init 4 = .ok (.aload_n 0, 1) := by decide +kernel
theorem dX1_init_5 : decode cX1_init 5 = .ok (.iconst 5, 1) := by decide +kernel
theorem dX1_init_6 : decode cX1_init 6 = .ok (.anewarray 9, 3) := by decide +kernel
theorem dX1_init_9 : decode cX1_init 9 = .ok (.putfield 11, 3) := by decide +kernel
theorem dX1_init_12 : decode cX1_init 12 = .ok (.iconst 0, 1) := by decide +kernel
theorem dX1_init_13 : decode cX1_init 13 = .ok (.istore_n 1, 1) := by decide +kernel
theorem dX1_init_14 : decode cX1_init 14 = .ok (.iload_n 1, 1) := by decide +kernel
theorem dX1_init_15 : decode cX1_init 15 = .ok (.iconst 5, 1) := by decide +kernel
theorem dX1_init_16 : decode cX1_init 16 = .ok (.if_icmp .ge 22, 3) := by decide +kernel
theorem dX1_init_19 : decode cX1_init 19 = .ok (.aload_n 0, 1) := by decide +kernel
theorem dX1_init_20 : decode cX1_init 20 = .ok (.getfield 11, 3) := by decide +kernel
theorem dX1_init_23 : decode cX1_init 23 = .ok (.iload_n 1, 1) := by decide +kernel
theorem dX1_init_24 : decode cX1_init 24 = .ok (.new 9, 3) := by decide +kernel
theorem dX1_init_27 : decode cX1_init 27 = .ok (.dup, 1) := by decide +kernel
theorem dX1_init_28 : decode cX1_init 28 = .ok (.invokespecial 17, 3) := by decide +kernel
theorem dX1_init_31 : decode cX1_init 31 = .ok (.aastore, 1) := by decide +kernel
theorem dX1_init_32 : decode cX1_init 32 = .ok (.iinc 1 1, 3) := by decide +kernel
theorem dX1_init_35 : decode cX1_init 35 = .ok (.goto (-21), 3) := by decide +kernel
theorem dX1_init_38 : decode cX1_init 38 = .ok (.return_, 1) := by decide +kernel
theorem dX1_record_0 : decode cX1_record 0 = .ok (.aload_n 0, 1) := by decide +kernel
theorem dX1_record_1 : decode cX1_record 1 = .ok (.getfield 18, 3) := by decide +kernel
theorem dX1_record_4 : decode cX1_record 4 = .ok (.iconst 5, 1) := by decide +kernel
theorem dX1_record_5 : decode cX1_record 5 = .ok (.if_icmp .ne 25, 3) := by decide +kernel
theorem dX1_record_8 : decode cX1_record 8 = .ok (.aload_n 0, 1) := by decide +kernel
theorem dX1_record_9 : decode cX1_record 9 = .ok (.aload_n 0, 1) := by decide +kernel
theorem dX1_record_10 : decode cX1_record 10 = .ok (.getfield 22, 3) := by decide +kernel
theorem dX1_record_13 : decode cX1_record 13 = .ok (.iconst 1, 1) := by decide +kernel
theorem dX1_record_14 : decode cX1_record 14 = .ok (.iadd, 1) := by decide +kernel
theorem dX1_record_15 : decode cX1_record 15 = .ok (.iconst 5, 1) := by decide +kernel
theorem dX1_record_16 : decode cX1_record 16 = .ok (.irem, 1) := by decide +kernel
theorem dX1_record_17 : decode cX1_record 17 = .ok (.putfield 22, 3) := by decide +kernel
theorem dX1_record_20 : decode cX1_record 20 = .ok (.aload_n 0, 1) := by decide +kernel
theorem dX1_record_21 : decode cX1_record 21 = .ok (.dup, 1) := by decide +kernel
theorem dX1_record_22 : decode cX1_record 22 = .ok (.getfield 18, 3) := by decide +kernel
theorem dX1_record_25 : decode cX1_record 25 = .ok (.iconst 1, 1) := by decide +kernel
theorem dX1_record_26 : decode cX1_record 26 = .ok (.isub, 1) := by decide +kernel
theorem dX1_record_27 : decode cX1_record 27 = .ok (.putfield 18, 3) := by decide +kernel
theorem dX1_record_30 : decode cX1_record 30 = .ok (.aload_n 0, 1) := by decide +kernel
theorem dX1_record_31 : decode cX1_record 31 = .ok (.getfield 11, 3) := by decide +kernel
theorem dX1_record_34 : decode cX1_record 34 = .ok (.aload_n 0, 1) := by decide +kernel
theorem dX1_record_35 : decode cX1_record 35 = .ok (.getfield 22, 3) := by decide +kernel
theorem dX1_record_38 : decode cX1_record 38 = .ok (.aload_n 0, 1) := by decide +kernel
theorem dX1_record_39 : decode cX1_record 39 = .ok (.getfield 18, 3) := by decide +kernel
theorem dX1_record_42 : decode cX1_record 42 = .ok (.iadd, 1) := by decide +kernel
theorem dX1_record_43 : decode cX1_record 43 = .ok (.iconst 5, 1) := by decide +kernel
theorem dX1_record_44 : decode cX1_record 44 = .ok (.irem, 1) := by decide +kernel
theorem dX1_record_45 : decode cX1_record 45 = .ok (.aaload, 1) := by decide +kernel
theorem dX1_record_46 : decode cX1_record 46 = .ok (.aload_n 1, 1) := by decide +kernel
theorem dX1_record_47 : decode cX1_record 47 = .ok (.invokevirtual 25, 3) := by decide +kernel
theorem dX1_record_50 : decode cX1_record 50 = .ok (.aload_n 0, 1) := by decide +kernel
theorem dX1_record_51 : decode cX1_record 51 = .ok (.dup, 1) := by decide +kernel
theorem dX1_record_52 : decode cX1_record 52 = .ok (.getfield 18, 3) := by decide +kernel
theorem dX1_record_55 : decode cX1_record 55 = .ok (.iconst 1, 1) := by decide +kernel
theorem dX1_record_56 : decode cX1_record 56 = .ok (.iadd, 1) := by decide +kernel
theorem dX1_record_57 : decode cX1_record 57 = .ok (.putfield 18, 3) := by decide +kernel
theorem dX1_record_60 : decode cX1_record 60 = .ok (.return_, 1) := by decide +kernel
theorem dX1_takeBack_0 : decode cX1_takeBack 0 = .ok (.aload_n 0, 1) := by decide +kernel
theorem dX1_takeBack_1 : decode cX1_takeBack 1 = .ok (.getfield 18, 3) := by decide +kernel
theorem dX1_takeBack_4 : decode cX1_takeBack 4 = .ok (.ifCond .le 33, 3) := by decide +kernel
theorem dX1_takeBack_7 : decode cX1_takeBack 7 = .ok (.aload_n 0, 1) := by decide +kernel
theorem dX1_takeBack_8 : decode cX1_takeBack 8 = .ok (.dup, 1) := by decide +kernel
theorem dX1_takeBack_9 : decode cX1_takeBack 9 = .ok (.getfield 18, 3) := by decide +kernel
theorem dX1_takeBack_12 : decode cX1_takeBack 12 = .ok (.iconst 1, 1) := by decide +kernel
theorem dX1_takeBack_13 : decode cX1_takeBack 13 = .ok (.isub, 1) := by decide +kernel
theorem dX1_takeBack_14 : decode cX1_takeBack 14 = .ok (.putfield 18, 3) := by decide +kernel
theorem dX1_takeBack_17 : decode cX1_takeBack 17 = .ok (.aload_n 1, 1) := by decide +kernel
theorem dX1_takeBack_18 : decode cX1_takeBack 18 = .ok (.aload_n 0, 1) := by decide +kernel
theorem dX1_takeBack_19 : decode cX1_takeBack 19 = .ok (.getfield 11, 3) := by decide +kernel
theorem dX1_takeBack_22 : decode cX1_takeBack 22 = .ok (.aload_n 0, 1) := by decide +kernel
theorem dX1_takeBack_23 : decode cX1_takeBack 23 = .ok (.getfield 22, 3) := by decide +kernel
theorem dX1_takeBack_26 : decode cX1_takeBack 26 = .ok (.aload_n 0, 1) := by decide +kernel
theorem dX1_takeBack_27 : decode cX1_takeBack 27 = .ok (.getfield 18, 3) := by decide +kernel
theorem dX1_takeBack_30 : decode cX1_takeBack 30 = .ok (.iadd, 1) := by decide +kernel
theorem dX1_takeBack_31 : decode cX1_takeBack 31 = .ok (.iconst 5, 1) := by decide +kernel
theorem dX1_takeBack_32 : decode cX1_takeBack 32 = .ok (.irem, 1) := by decide +kernel
theorem dX1_takeBack_33 : decode cX1_takeBack 33 = .ok (.aaload, 1) := by decide +kernel
theorem dX1_takeBack_34 : decode cX1_takeBack 34 = .ok (.invokevirtual 25, 3) := by decide +kernel
theorem dX1_takeBack_37 : decode cX1_takeBack 37 = .ok (.return_, 1) := by decide +kernel
theorem dX2_init_0 : decode cX2_init 0 = .ok (.aload_n 0, 1) := by decide +kernel
theorem dX2_init_1 : decode cX2_init 1 = .ok (.invokespecial 3, 3) := by decide +kernel
theorem dX2_init_4 : decode cX2_init 4 = .ok (.aload_n 0, 1) := by decide +kernel
theorem dX2_init_5 : decode cX2_init 5 = .ok (.bipush 8, 2) := by decide +kernel
theorem dX2_init_7 : decode cX2_init 7 = .ok (.anewarray 9, 3) := by decide +kernel
theorem dX2_init_10 : decode cX2_init 10 = .ok (.putfield 11, 3) := by decide +kernel
theorem dX2_init_13 : decode cX2_init 13 = .ok (.iconst 0, 1) := by decide +kernel
theorem dX2_init_14 : decode cX2_init 14 = .ok (.istore_n 1, 1) := by decide +kernel
theorem dX2_init_15 : decode cX2_init 15 = .ok (.iload_n 1, 1) := by decide +kernel
theorem dX2_init_16 : decode cX2_init 16 = .ok (.bipush 8, 2) := by decide +kernel
theorem dX2_init_18 : decode cX2_init 18 = .ok (.if_icmp .ge 22, 3) := by decide +kernel
theorem dX2_init_21 : decode cX2_init 21 = .ok (.aload_n 0, 1) := by decide +kernel
theorem dX2_init_22 : decode cX2_init 22 = .ok (.getfield 11, 3) := by decide +kernel
theorem dX2_init_25 : decode cX2_init 25 = .ok (.iload_n 1, 1) := by decide +kernel
theorem dX2_init_26 : decode cX2_init 26 = .ok (.new 9, 3) := by decide +kernel
theorem dX2_init_29 : decode cX2_init 29 = .ok (.dup, 1) := by decide +kernel
theorem dX2_init_30 : decode cX2_init 30 = .ok (.invokespecial 17, 3) := by decide +kernel
theorem dX2_init_33 : decode cX2_init 33 = .ok (.aastore, 1) := by decide +kernel
theorem dX2_init_34 : decode cX2_init 34 = .ok (.iinc 1 1, 3) := by decide +kernel
theorem dX2_init_37 : decode cX2_init 37 = .ok (.goto (-22), 3) := by decide +kernel
theorem dX2_init_40 : decode cX2_init 40 = .ok (.aload_n 0, 1) := by decide +kernel
theorem dX2_init_41 : decode cX2_init 41 = .ok (.bipush 6, 2) := by decide +kernel
theorem dX2_init_43 : decode cX2_init 43 = .ok (.newarray .double, 2) := by decide +kernel
theorem dX2_init_45 : decode cX2_init 45 = .ok (.putfield 18, 3) := by decide +kernel
theorem dX2_init_48 : decode cX2_init 48 = .ok (.aload_n 0, 1) := by decide +kernel
theorem dX2_init_49 : decode cX2_init 49 = .ok (.bipush 10, 2) := by decide +kernel
theorem dX2_init_51 : decode cX2_init 51 = .ok (.anewarray 22, 3) := by decide +kernel
theorem dX2_init_54 : decode cX2_init 54 = .ok (.putfield 24, 3) := by decide +kernel
theorem dX2_init_57 : decode cX2_init 57 = .ok (.iconst 0, 1) := by decide +kernel
theorem dX2_init_58 : decode cX2_init 58 = .ok (.istore_n 1, 1) := by decide +kernel
theorem dX2_init_59 : decode cX2_init 59 = .ok (.iload_n 1, 1) := by decide +kernel
theorem dX2_init_60 : decode cX2_init 60 = .ok (.bipush 10, 2) := by decide +kernel
theorem dX2_init_62 : decode cX2_init 62 = .ok (.if_icmp .ge 22, 3) := by decide +kernel
theorem dX2_init_65 : decode cX2_init 65 = .ok (.aload_n 0, 1) := by decide +kernel
theorem dX2_init_66 : decode cX2_init 66 = .ok (.getfield 24, 3) := by decide +kernel
theorem dX2_init_69 : decode cX2_init 69 = .ok (.iload_n 1, 1) := by decide +kernel
theorem dX2_init_70 : decode cX2_init 70 = .ok (.new 22, 3) := by decide +kernel
theorem dX2_init_73 : decode cX2_init 73 = .ok (.dup, 1) := by decide +kernel
theorem dX2_init_74 : decode cX2_init 74 = .ok (.invokespecial 28, 3) := by decide +kernel
theorem dX2_init_77 : decode cX2_init 77 = .ok (.aastore, 1) := by decide +kernel
theorem dX2_init_78 : decode cX2_init 78 = .ok (.iinc 1 1, 3) := by decide +kernel
theorem dX2_init_81 : decode cX2_init 81 = .ok (.goto (-22), 3) := by decide +kernel
theorem dX2_init_84 : decode cX2_init 84 = .ok (.return_, 1) := by decide +kernel
theorem dX2_copyFrom_0 : decode cX2_copyFrom 0 = .ok (.iconst 0, 1) := by decide +kernel
theorem dX2_copyFrom_1 : decode cX2_copyFrom 1 = .ok (.istore_n 2, 1) := by decide +kernel
theorem dX2_copyFrom_2 : decode cX2_copyFrom 2 = .ok (.iload_n 2, 1) := by decide +kernel
theorem dX2_copyFrom_3 : decode cX2_copyFrom 3 = .ok (.aload_n 1, 1) := by decide +kernel
theorem dX2_copyFrom_4 : decode cX2_copyFrom 4 = .ok (.getfield 29, 3) := by decide +kernel
theorem dX2_copyFrom_7 : decode cX2_copyFrom 7 = .ok (.if_icmp .ge 24, 3) := by decide +kernel
theorem dX2_copyFrom_10 : decode cX2_copyFrom 10 = .ok (.aload_n 0, 1) := by decide +kernel
theorem dX2_copyFrom_11 : decode cX2_copyFrom 11 = .ok (.getfield 11, 3) := by decide +kernel
theorem dX2_copyFrom_14 : decode cX2_copyFrom 14 = .ok (.iload_n 2, 1) := by decide +kernel
theorem dX2_copyFrom_15 : decode cX2_copyFrom 15 = .ok (.aaload, 1) := by decide +kernel
theorem dX2_copyFrom_16 : decode cX2_copyFrom 16 = .ok (.aload_n 1, 1) := by decide +kernel
theorem dX2_copyFrom_17 : decode cX2_copyFrom 17 = .ok (.getfield 11, 3) := by decide +kernel
theorem dX2_copyFrom_20 : decode cX2_copyFrom 20 = .ok (.iload_n 2, 1) := by decide +kernel
theorem dX2_copyFrom_21 : decode cX2_copyFrom 21 = .ok (.aaload, 1) := by decide +kernel
theorem dX2_copyFrom_22 : decode cX2_copyFrom 22 = .ok (.invokevirtual 33, 3) := by decide +kernel
theorem dX2_copyFrom_25 : decode cX2_copyFrom 25 = .ok (.iinc 2 1, 3) := by decide +kernel
theorem dX2_copyFrom_28 : decode cX2_copyFrom 28 = .ok (.goto (-26), 3) := by decide +kernel
theorem dX2_copyFrom_31 : decode cX2_copyFrom 31 = .ok (.aload_n 1, 1) := by decide +kernel
theorem dX2_copyFrom_32 : decode cX2_copyFrom 32 = .ok (.getfield 18, 3) := by decide +kernel
theorem dX2_copyFrom_35 : decode cX2_copyFrom 35 = .ok (.iconst 0, 1) := by decide +kernel
theorem dX2_copyFrom_36 : decode cX2_copyFrom 36 = .ok (.aload_n 0, 1) := by decide +kernel
theorem dX2_copyFrom_37 : decode cX2_copyFrom 37 = .ok (.getfield 18, 3) := by decide +kernel
theorem dX2_copyFrom_40 : decode cX2_copyFrom 40 = .ok (.iconst 0, 1) := by decide +kernel
theorem dX2_copyFrom_41 : decode cX2_copyFrom 41 = .ok (.bipush 6, 2) := by decide +kernel
theorem dX2_copyFrom_43 : decode cX2_copyFrom 43 = .ok (.invokestatic 37, 3) := by decide +kernel
theorem dX2_copyFrom_46 : decode cX2_copyFrom 46 = .ok (.iconst 0, 1) := by decide +kernel
theorem dX2_copyFrom_47 : decode cX2_copyFrom 47 = .ok (.istore_n 2, 1) := by decide +kernel
theorem dX2_copyFrom_48 : decode cX2_copyFrom 48 = .ok (.iload_n 2, 1) := by decide +kernel
theorem dX2_copyFrom_49 : decode cX2_copyFrom 49 = .ok (.aload_n 1, 1) := by decide +kernel
theorem dX2_copyFrom_50 : decode cX2_copyFrom 50 = .ok (.getfield 43, 3) := by decide +kernel
theorem dX2_copyFrom_53 : decode cX2_copyFrom 53 = .ok (.if_icmp .ge 24, 3) := by decide +kernel
theorem dX2_copyFrom_56 : decode cX2_copyFrom 56 = .ok (.aload_n 0, 1) := by decide +kernel
theorem dX2_copyFrom_57 : decode cX2_copyFrom 57 = .ok (.getfield 24, 3) := by decide +kernel
theorem dX2_copyFrom_60 : decode cX2_copyFrom 60 = .ok (.iload_n 2, 1) := by decide +kernel
theorem dX2_copyFrom_61 : decode cX2_copyFrom 61 = .ok (.aaload, 1) := by decide +kernel
theorem dX2_copyFrom_62 : decode cX2_copyFrom 62 = .ok (.aload_n 1, 1) := by decide +kernel
theorem dX2_copyFrom_63 : decode cX2_copyFrom 63 = .ok (.getfield 24, 3) := by decide +kernel
theorem dX2_copyFrom_66 : decode cX2_copyFrom 66 = .ok (.iload_n 2, 1) := by decide +kernel
theorem dX2_copyFrom_67 : decode cX2_copyFrom 67 = .ok (.aaload, 1) := by decide +kernel
theorem dX2_copyFrom_68 : decode cX2_copyFrom 68 = .ok (.invokevirtual 46, 3) := by decide +kernel
theorem dX2_copyFrom_71 : decode cX2_copyFrom 71 = .ok (.iinc 2 1, 3) := by decide +kernel
theorem dX2_copyFrom_74 : decode cX2_copyFrom 74 = .ok (.goto (-26), 3) := by decide +kernel
theorem dX2_copyFrom_77 : decode cX2_copyFrom 77 = .ok (.aload_n 0, 1) := by decide +kernel
theorem dX2_copyFrom_78 : decode cX2_copyFrom 78 = .ok (.aload_n 1, 1) := by decide +kernel
theorem dX2_copyFrom_79 : decode cX2_copyFrom 79 = .ok (.getfield 29, 3) := by decide +kernel
theorem dX2_copyFrom_82 : decode cX2_copyFrom 82 = .ok (.putfield 29, 3) := by decide +kernel
theorem dX2_copyFrom_85 : decode cX2_copyFrom 85 = .ok (.aload_n 0, 1) := by decide +kernel
theorem dX2_copyFrom_86 : decode cX2_copyFrom 86 = .ok (.aload_n 1, 1) := by decide +kernel
theorem dX2_copyFrom_87 : decode cX2_copyFrom 87 = .ok (.getfield 49, 3) := by decide +kernel
theorem dX2_copyFrom_90 : decode cX2_copyFrom 90 = .ok (.putfield 49, 3) := by decide +kernel
theorem dX2_copyFrom_93 : decode cX2_copyFrom 93 = .ok (.aload_n 0, 1) := by decide +kernel
theorem dX2_copyFrom_94 : decode cX2_copyFrom 94 = .ok (.aload_n 1, 1) := by decide +kernel
theorem dX2_copyFrom_95 : decode cX2_copyFrom 95 = .ok (.getfield 43, 3) := by decide +kernel
theorem dX2_copyFrom_98 : decode cX2_copyFrom 98 = .ok (.putfield 43, 3) := by decide +kernel
theorem dX2_copyFrom_101 : decode cX2_copyFrom 101 = .ok (.aload_n 0, 1) := by decide +kernel
theorem dX2_copyFrom_102 : decode cX2_copyFrom 102 = .ok (.aload_n 1, 1) := by decide +kernel
theorem dX2_copyFrom_103 : decode cX2_copyFrom 103 = .ok (.getfield 52, 3) := by decide +kernel
theorem dX2_copyFrom_106 : decode cX2_copyFrom 106 = .ok (.putfield 52, 3) := by decide +kernel
theorem dX2_copyFrom_109 : decode cX2_copyFrom 109 = .ok (.aload_n 0, 1) := by decide +kernel
theorem dX2_copyFrom_110 : decode cX2_copyFrom 110 = .ok (.aload_n 1, 1) := by decide +kernel
theorem dX2_copyFrom_111 : decode cX2_copyFrom 111 = .ok (.getfield 55, 3) := by decide +kernel
theorem dX2_copyFrom_114 : decode cX2_copyFrom 114 = .ok (.putfield 55, 3) := by decide +kernel
theorem dX2_copyFrom_117 : decode cX2_copyFrom 117 = .ok (.aload_n 0, 1) := by decide +kernel
theorem dX2_copyFrom_118 : decode cX2_copyFrom 118 = .ok (.aload_n 1, 1) := by decide +kernel
theorem dX2_copyFrom_119 : decode cX2_copyFrom 119 = .ok (.getfield 59, 3) := by decide +kernel
theorem dX2_copyFrom_122 : decode cX2_copyFrom 122 = .ok (.putfield 59, 3) := by decide +kernel
theorem dX2_copyFrom_125 : decode cX2_copyFrom 125 = .ok (.aload_n 0, 1) := by decide +kernel
theorem dX2_copyFrom_126 : decode cX2_copyFrom 126 = .ok (.aload_n 1, 1) := by decide +kernel
theorem dX2_copyFrom_127 : decode cX2_copyFrom 127 = .ok (.getfield 63, 3) := by decide +kernel
theorem dX2_copyFrom_130 : decode cX2_copyFrom 130 = .ok (.putfield 63, 3) := by decide +kernel
theorem dX2_copyFrom_133 : decode cX2_copyFrom 133 = .ok (.return_, 1) := by decide +kernel
theorem dX2_guideAt_0 : decode cX2_guideAt 0 = .ok (.iload_n 1, 1) := by decide +kernel
theorem dX2_guideAt_1 : decode cX2_guideAt 1 = .ok (.ifCond .lt 20, 3) := by decide +kernel
theorem dX2_guideAt_4 : decode cX2_guideAt 4 = .ok (.iload_n 1, 1) := by decide +kernel
theorem dX2_guideAt_5 : decode cX2_guideAt 5 = .ok (.aload_n 0, 1) := by decide +kernel
theorem dX2_guideAt_6 : decode cX2_guideAt 6 = .ok (.getfield 29, 3) := by decide +kernel
theorem dX2_guideAt_9 : decode cX2_guideAt 9 = .ok (.if_icmp .ge 12, 3) := by decide +kernel
theorem dX2_guideAt_12 : decode cX2_guideAt 12 = .ok (.aload_n 0, 1) := by decide +kernel
theorem dX2_guideAt_13 : decode cX2_guideAt 13 = .ok (.getfield 11, 3) := by decide +kernel
theorem dX2_guideAt_16 : decode cX2_guideAt 16 = .ok (.iload_n 1, 1) := by decide +kernel
theorem dX2_guideAt_17 : decode cX2_guideAt 17 = .ok (.aaload, 1) := by decide +kernel
theorem dX2_guideAt_18 : decode cX2_guideAt 18 = .ok (.goto 4, 3) := by decide +kernel
theorem dX2_guideAt_21 : decode cX2_guideAt 21 = .ok (.aconst_null, 1) := by decide +kernel
theorem dX2_guideAt_22 : decode cX2_guideAt 22 = .ok (.areturn, 1) := by decide +kernel
theorem dX2_tourAt_0 : decode cX2_tourAt 0 = .ok (.iload_n 1, 1) := by decide +kernel
theorem dX2_tourAt_1 : decode cX2_tourAt 1 = .ok (.ifCond .lt 20, 3) := by decide +kernel
theorem dX2_tourAt_4 : decode cX2_tourAt 4 = .ok (.iload_n 1, 1) := by decide +kernel
theorem dX2_tourAt_5 : decode cX2_tourAt 5 = .ok (.aload_n 0, 1) := by decide +kernel
theorem dX2_tourAt_6 : decode cX2_tourAt 6 = .ok (.getfield 43, 3) := by decide +kernel
theorem dX2_tourAt_9 : decode cX2_tourAt 9 = .ok (.if_icmp .ge 12, 3) := by decide +kernel
theorem dX2_tourAt_12 : decode cX2_tourAt 12 = .ok (.aload_n 0, 1) := by decide +kernel
theorem dX2_tourAt_13 : decode cX2_tourAt 13 = .ok (.getfield 24, 3) := by decide +kernel
theorem dX2_tourAt_16 : decode cX2_tourAt 16 = .ok (.iload_n 1, 1) := by decide +kernel
theorem dX2_tourAt_17 : decode cX2_tourAt 17 = .ok (.aaload, 1) := by decide +kernel
theorem dX2_tourAt_18 : decode cX2_tourAt 18 = .ok (.goto 4, 3) := by decide +kernel
theorem dX2_tourAt_21 : decode cX2_tourAt 21 = .ok (.aconst_null, 1) := by decide +kernel
theorem dX2_tourAt_22 : decode cX2_tourAt 22 = .ok (.areturn, 1) := by decide +kernel
theorem dX2_hasBridge_0 : decode cX2_hasBridge 0 = .ok (.iload_n 1, 1) := by decide +kernel
theorem dX2_hasBridge_1 : decode cX2_hasBridge 1 = .ok (.ifCond .lt 15, 3) := by decide +kernel
theorem dX2_hasBridge_4 : decode cX2_hasBridge 4 = .ok (.iload_n 1, 1) := by decide +kernel
theorem dX2_hasBridge_5 : decode cX2_hasBridge 5 = .ok (.aload_n 0, 1) := by decide +kernel
theorem dX2_hasBridge_6 : decode cX2_hasBridge 6 = .ok (.getfield 49, 3) := by decide +kernel
theorem dX2_hasBridge_9 : decode cX2_hasBridge 9 = .ok (.if_icmp .ge 7, 3) := by decide +kernel
theorem dX2_hasBridge_12 : decode cX2_hasBridge 12 = .ok (.iconst 1, 1) := by decide +kernel
theorem dX2_hasBridge_13 : decode cX2_hasBridge 13 = .ok (.goto 4, 3) := by decide +kernel
theorem dX2_hasBridge_16 : decode cX2_hasBridge 16 = .ok (.iconst 0, 1) := by decide +kernel
theorem dX2_hasBridge_17 : decode cX2_hasBridge 17 = .ok (.ireturn, 1) := by decide +kernel
theorem dX2_hasBridges_0 : decode cX2_hasBridges 0 = .ok (.iload_n 1, 1) := by decide +kernel
theorem dX2_hasBridges_1 : decode cX2_hasBridges 1 = .ok (.iconst 1, 1) := by decide +kernel
theorem dX2_hasBridges_2 : decode cX2_hasBridges 2 = .ok (.aload_n 0, 1) := by decide +kernel
theorem dX2_hasBridges_3 : decode cX2_hasBridges 3 = .ok (.getfield 49, 3) := by decide +kernel
theorem dX2_hasBridges_6 : decode cX2_hasBridges 6 = .ok (.ishl, 1) := by decide +kernel
theorem dX2_hasBridges_7 : decode cX2_hasBridges 7 = .ok (.iconst 1, 1) := by decide +kernel
theorem dX2_hasBridges_8 : decode cX2_hasBridges 8 = .ok (.isub, 1) := by decide +kernel
theorem dX2_hasBridges_9 : decode cX2_hasBridges 9 = .ok (.iconst (-1), 1) := by decide +kernel
theorem dX2_hasBridges_10 : decode cX2_hasBridges 10 = .ok (.ixor, 1) := by decide +kernel
theorem dX2_hasBridges_11 : decode cX2_hasBridges 11 = .ok (.iand, 1) := by decide +kernel
theorem dX2_hasBridges_12 : decode cX2_hasBridges 12 = .ok (.ifCond .ne 7, 3) := by decide +kernel
theorem dX2_hasBridges_15 : decode cX2_hasBridges 15 = .ok (.iconst 1, 1) := by decide +kernel
theorem dX2_hasBridges_16 : decode cX2_hasBridges 16 = .ok (.goto 4, 3) := by decide +kernel
theorem dX2_hasBridges_19 : decode cX2_hasBridges 19 = .ok (.iconst 0, 1) := by decide +kernel
theorem dX2_hasBridges_20 : decode cX2_hasBridges 20 = .ok (.ireturn, 1) := by decide +kernel
theorem dX2_mayLead_0 : decode cX2_mayLead 0 = .ok (.aload_n 2, 1) := by decide +kernel
theorem dX2_mayLead_1 : decode cX2_mayLead 1 = .ok (.getfield 66, 3) := by decide +kernel
theorem dX2_mayLead_4 : decode cX2_mayLead 4 = .ok (.ifCond .ne 35, 3) := by decide +kernel
theorem dX2_mayLead_7 : decode cX2_mayLead 7 = .ok (.aload_n 0, 1) := by decide +kernel
theorem dX2_mayLead_8 : decode cX2_mayLead 8 = .ok (.getfield 11, 3) := by decide +kernel
theorem dX2_mayLead_11 : decode cX2_mayLead 11 = .ok (.iload_n 1, 1) := by decide +kernel
theorem dX2_mayLead_12 : decode cX2_mayLead 12 = .ok (.aaload, 1) := by decide +kernel
theorem dX2_mayLead_13 : decode cX2_mayLead 13 = .ok (.aload_n 2, 1) := by decide +kernel
theorem dX2_mayLead_14 : decode cX2_mayLead 14 = .ok (.getfield 69, 3) := by decide +kernel
theorem dX2_mayLead_17 : decode cX2_mayLead 17 = .ok (.invokevirtual 70, 3) := by decide +kernel
theorem dX2_mayLead_20 : decode cX2_mayLead 20 = .ok (.ifCond .eq 19, 3) := by decide +kernel
theorem dX2_mayLead_23 : decode cX2_mayLead 23 = .ok (.aload_n 0, 1) := by decide +kernel
theorem dX2_mayLead_24 : decode cX2_mayLead 24 = .ok (.aload_n 2, 1) := by decide +kernel
theorem dX2_mayLead_25 : decode cX2_mayLead 25 = .ok (.getfield 69, 3) := by decide +kernel
theorem dX2_mayLead_28 : decode cX2_mayLead 28 = .ok (.iload_n 1, 1) := by decide +kernel
theorem dX2_mayLead_29 : decode cX2_mayLead 29 = .ok (.invokevirtual 74, 3) := by decide +kernel
theorem dX2_mayLead_32 : decode cX2_mayLead 32 = .ok (.ifCond .ne 7, 3) := by decide +kernel
theorem dX2_mayLead_35 : decode cX2_mayLead 35 = .ok (.iconst 1, 1) := by decide +kernel
theorem dX2_mayLead_36 : decode cX2_mayLead 36 = .ok (.goto 4, 3) := by decide +kernel
theorem dX2_mayLead_39 : decode cX2_mayLead 39 = .ok (.iconst 0, 1) := by decide +kernel
theorem dX2_mayLead_40 : decode cX2_mayLead 40 = .ok (.ireturn, 1) := by decide +kernel
theorem dX2_isBusyOn_0 : decode cX2_isBusyOn 0 = .ok (.iconst 0, 1) := by decide +kernel
theorem dX2_isBusyOn_1 : decode cX2_isBusyOn 1 = .ok (.istore_n 3, 1) := by decide +kernel
theorem dX2_isBusyOn_2 : decode cX2_isBusyOn 2 = .ok (.iload_n 3, 1) := by decide +kernel
theorem dX2_isBusyOn_3 : decode cX2_isBusyOn 3 = .ok (.aload_n 0, 1) := by decide +kernel
theorem dX2_isBusyOn_4 : decode cX2_isBusyOn 4 = .ok (.getfield 43, 3) := by decide +kernel
theorem dX2_isBusyOn_7 : decode cX2_isBusyOn 7 = .ok (.if_icmp .ge 49, 3) := by decide +kernel
theorem dX2_isBusyOn_10 : decode cX2_isBusyOn 10 = .ok (.aload_n 0, 1) := by decide +kernel
theorem dX2_isBusyOn_11 : decode cX2_isBusyOn 11 = .ok (.getfield 24, 3) := by decide +kernel
theorem dX2_isBusyOn_14 : decode cX2_isBusyOn 14 = .ok (.iload_n 3, 1) := by decide +kernel
theorem dX2_isBusyOn_15 : decode cX2_isBusyOn 15 = .ok (.aaload, 1) := by decide +kernel
theorem dX2_isBusyOn_16 : decode cX2_isBusyOn 16 = .ok (.getfield 66, 3) := by decide +kernel
theorem dX2_isBusyOn_19 : decode cX2_isBusyOn 19 = .ok (.ifCond .ne 31, 3) := by decide +kernel
theorem dX2_isBusyOn_22 : decode cX2_isBusyOn 22 = .ok (.aload_n 0, 1) := by decide +kernel
theorem dX2_isBusyOn_23 : decode cX2_isBusyOn 23 = .ok (.getfield 24, 3) := by decide +kernel
theorem dX2_isBusyOn_26 : decode cX2_isBusyOn 26 = .ok (.iload_n 3, 1) := by decide +kernel
theorem dX2_isBusyOn_27 : decode cX2_isBusyOn 27 = .ok (.aaload, 1) := by decide +kernel
theorem dX2_isBusyOn_28 : decode cX2_isBusyOn 28 = .ok (.getfield 69, 3) := by decide +kernel
theorem dX2_isBusyOn_31 : decode cX2_isBusyOn 31 = .ok (.iload_n 1, 1) := by decide +kernel
theorem dX2_isBusyOn_32 : decode cX2_isBusyOn 32 = .ok (.if_icmp .ne 18, 3) := by decide +kernel
theorem dX2_isBusyOn_35 : decode cX2_isBusyOn 35 = .ok (.aload_n 0, 1) := by decide +kernel
theorem dX2_isBusyOn_36 : decode cX2_isBusyOn 36 = .ok (.getfield 24, 3) := by decide +kernel
theorem dX2_isBusyOn_39 : decode cX2_isBusyOn 39 = .ok (.iload_n 3, 1) := by decide +kernel
theorem dX2_isBusyOn_40 : decode cX2_isBusyOn 40 = .ok (.aaload, 1) := by decide +kernel
theorem dX2_isBusyOn_41 : decode cX2_isBusyOn 41 = .ok (.iload_n 2, 1) := by decide +kernel
theorem dX2_isBusyOn_42 : decode cX2_isBusyOn 42 = .ok (.invokevirtual 78, 3) := by decide +kernel
theorem dX2_isBusyOn_45 : decode cX2_isBusyOn 45 = .ok (.ifCond .eq 5, 3) := by decide +kernel
theorem dX2_isBusyOn_48 : decode cX2_isBusyOn 48 = .ok (.iconst 1, 1) := by decide +kernel
theorem dX2_isBusyOn_49 : decode cX2_isBusyOn 49 = .ok (.ireturn, 1) := by decide +kernel
theorem dX2_isBusyOn_50 : decode cX2_isBusyOn 50 = .ok (.iinc 3 1, 3) := by decide +kernel
theorem dX2_isBusyOn_53 : decode cX2_isBusyOn 53 = .ok (.goto (-51), 3) := by decide +kernel
theorem dX2_isBusyOn_56 : decode cX2_isBusyOn 56 = .ok (.iconst 0, 1) := by decide +kernel
theorem dX2_isBusyOn_57 : decode cX2_isBusyOn 57 = .ok (.ireturn, 1) := by decide +kernel
theorem dX2_ratioOf_0 : decode cX2_ratioOf 0 = .ok (.aload_n 2, 1) := by decide +kernel
theorem dX2_ratioOf_1 : decode cX2_ratioOf 1 = .ok (.getfield 81, 3) := by decide +kernel
theorem dX2_ratioOf_4 : decode cX2_ratioOf 4 = .ok (.aload_n 0, 1) := by decide +kernel
theorem dX2_ratioOf_5 : decode cX2_ratioOf 5 = .ok (.getfield 11, 3) := by decide +kernel
theorem dX2_ratioOf_8 : decode cX2_ratioOf 8 = .ok (.iload_n 1, 1) := by decide +kernel
theorem dX2_ratioOf_9 : decode cX2_ratioOf 9 = .ok (.aaload, 1) := by decide +kernel
theorem dX2_ratioOf_10 : decode cX2_ratioOf 10 = .ok (.getfield 84, 3) := by decide +kernel
theorem dX2_ratioOf_13 : decode cX2_ratioOf 13 = .ok (.iadd, 1) := by decide +kernel
theorem dX2_ratioOf_14 : decode cX2_ratioOf 14 = .ok (.iconst 2, 1) := by decide +kernel
theorem dX2_ratioOf_15 : decode cX2_ratioOf 15 = .ok (.isub, 1) := by decide +kernel
theorem dX2_ratioOf_16 : decode cX2_ratioOf 16 = .ok (.istore_n 3, 1) := by decide +kernel
theorem dX2_ratioOf_17 : decode cX2_ratioOf 17 = .ok (.iload_n 3, 1) := by decide +kernel
theorem dX2_ratioOf_18 : decode cX2_ratioOf 18 = .ok (.iconst 1, 1) := by decide +kernel
theorem dX2_ratioOf_19 : decode cX2_ratioOf 19 = .ok (.if_icmp .ge 7, 3) := by decide +kernel
theorem dX2_ratioOf_22 : decode cX2_ratioOf 22 = .ok (.iconst 1, 1) := by decide +kernel
theorem dX2_ratioOf_23 : decode cX2_ratioOf 23 = .ok (.goto 4, 3) := by decide +kernel
theorem dX2_ratioOf_26 : decode cX2_ratioOf 26 = .ok (.iload_n 3, 1) := by decide +kernel
theorem dX2_ratioOf_27 : decode cX2_ratioOf 27 = .ok (.ireturn, 1) := by decide +kernel
theorem dX2_leftAfter_0 : decode cX2_leftAfter 0 = .ok (.aload_n 1, 1) := by decide +kernel
theorem dX2_leftAfter_1 : decode cX2_leftAfter 1 = .ok (.getfield 87, 3) := by decide +kernel
theorem dX2_leftAfter_4 : decode cX2_leftAfter 4 = .ok (.istore_n 3, 1) := by decide +kernel
theorem dX2_leftAfter_5 : decode cX2_leftAfter 5 = .ok (.iconst 0, 1) := by decide +kernel
theorem dX2_leftAfter_6 : decode cX2_leftAfter 6 = .ok (.istore 4, 2) := by decide +kernel
theorem dX2_leftAfter_8 : decode cX2_leftAfter 8 = .ok (.iload 4, 2) := by decide +kernel
theorem dX2_leftAfter_10 : decode cX2_leftAfter 10 = .ok (.iload_n 2, 1) := by decide +kernel
theorem dX2_leftAfter_11 : decode cX2_leftAfter 11 = .ok (.if_icmp .ge 24, 3) := by decide +kernel
theorem dX2_leftAfter_14 : decode cX2_leftAfter 14 = .ok (.iload_n 3, 1) := by decide +kernel
theorem dX2_leftAfter_15 : decode cX2_leftAfter 15 = .ok (.aload_n 0, 1) := by decide +kernel
theorem dX2_leftAfter_16 : decode cX2_leftAfter 16 = .ok (.aload_n 1, 1) := by decide +kernel
theorem dX2_leftAfter_17 : decode cX2_leftAfter 17 = .ok (.getfield 90, 3) := by decide +kernel
theorem dX2_leftAfter_20 : decode cX2_leftAfter 20 = .ok (.iload 4, 2) := by decide +kernel
theorem dX2_leftAfter_22 : decode cX2_leftAfter 22 = .ok (.iaload, 1) := by decide +kernel
theorem dX2_leftAfter_23 : decode cX2_leftAfter 23 = .ok (.aload_n 1, 1) := by decide +kernel
theorem dX2_leftAfter_24 : decode cX2_leftAfter 24 = .ok (.invokevirtual 94, 3) := by decide +kernel
theorem dX2_leftAfter_27 : decode cX2_leftAfter 27 = .ok (.isub, 1) := by decide +kernel
theorem dX2_leftAfter_28 : decode cX2_leftAfter 28 = .ok (.istore_n 3, 1) := by decide +kernel
theorem dX2_leftAfter_29 : decode cX2_leftAfter 29 = .ok (.iinc 4 1, 3) := by decide +kernel
theorem dX2_leftAfter_32 : decode cX2_leftAfter 32 = .ok (.goto (-24), 3) := by decide +kernel
theorem dX2_leftAfter_35 : decode cX2_leftAfter 35 = .ok (.iload_n 3, 1) := by decide +kernel
theorem dX2_leftAfter_36 : decode cX2_leftAfter 36 = .ok (.ifCond .ge 7, 3) := by decide +kernel
theorem dX2_leftAfter_39 : decode cX2_leftAfter 39 = .ok (.iconst 0, 1) := by decide +kernel
theorem dX2_leftAfter_40 : decode cX2_leftAfter 40 = .ok (.goto 4, 3) := by decide +kernel
theorem dX2_leftAfter_43 : decode cX2_leftAfter 43 = .ok (.iload_n 3, 1) := by decide +kernel
theorem dX2_leftAfter_44 : decode cX2_leftAfter 44 = .ok (.ireturn, 1) := by decide +kernel
theorem dX2_guestsOnRope_0 : decode cX2_guestsOnRope 0 = .ok (.aload_n 0, 1) := by decide +kernel
theorem dX2_guestsOnRope_1 : decode cX2_guestsOnRope 1 = .ok (.aload_n 1, 1) := by decide +kernel
theorem dX2_guestsOnRope_2 : decode cX2_guestsOnRope 2 = .ok (.iload_n 2, 1) := by decide +kernel
theorem dX2_guestsOnRope_3 : decode cX2_guestsOnRope 3 = .ok (.invokevirtual 98, 3) := by decide +kernel
theorem dX2_guestsOnRope_6 : decode cX2_guestsOnRope 6 = .ok (.aload_n 0, 1) := by decide +kernel
theorem dX2_guestsOnRope_7 : decode cX2_guestsOnRope 7 = .ok (.aload_n 1, 1) := by decide +kernel
theorem dX2_guestsOnRope_8 : decode cX2_guestsOnRope 8 = .ok (.iload_n 2, 1) := by decide +kernel
theorem dX2_guestsOnRope_9 : decode cX2_guestsOnRope 9 = .ok (.iconst 1, 1) := by decide +kernel
theorem dX2_guestsOnRope_10 : decode cX2_guestsOnRope 10 = .ok (.iadd, 1) := by decide +kernel
theorem dX2_guestsOnRope_11 : decode cX2_guestsOnRope 11 = .ok (.invokevirtual 98, 3) := by decide +kernel
theorem dX2_guestsOnRope_14 : decode cX2_guestsOnRope 14 = .ok (.isub, 1) := by decide +kernel
theorem dX2_guestsOnRope_15 : decode cX2_guestsOnRope 15 = .ok (.ireturn, 1) := by decide +kernel
theorem dX2_firstOpenTourOf_0 : decode cX2_firstOpenTourOf 0 = .ok (.iconst 0, 1) := by decide +kernel
theorem dX2_firstOpenTourOf_1 : decode cX2_firstOpenTourOf 1 = .ok (.istore_n 2, 1) := by decide +kernel
theorem dX2_firstOpenTourOf_2 : decode cX2_firstOpenTourOf 2 = .ok (.iload_n 2, 1) := by decide +kernel
theorem dX2_firstOpenTourOf_3 : decode cX2_firstOpenTourOf 3 = .ok (.aload_n 0, 1) := by decide +kernel
theorem dX2_firstOpenTourOf_4 : decode cX2_firstOpenTourOf 4 = .ok (.getfield 43, 3) := by decide +kernel
theorem dX2_firstOpenTourOf_7 : decode cX2_firstOpenTourOf 7 = .ok (.if_icmp .ge 36, 3) := by decide +kernel
theorem dX2_firstOpenTourOf_10 : decode cX2_firstOpenTourOf 10 = .ok (.aload_n 0, 1) := by decide +kernel
theorem dX2_firstOpenTourOf_11 : decode cX2_firstOpenTourOf 11 = .ok (.getfield 24, 3) := by decide +kernel
theorem dX2_firstOpenTourOf_14 : decode cX2_firstOpenTourOf 14 = .ok (.iload_n 2, 1) := by decide +kernel
theorem dX2_firstOpenTourOf_15 : decode cX2_firstOpenTourOf 15 = .ok (.aaload, 1) := by decide +kernel
theorem dX2_firstOpenTourOf_16 : decode cX2_firstOpenTourOf 16 = .ok (.getfield 66, 3) := by decide +kernel
theorem dX2_firstOpenTourOf_19 : decode cX2_firstOpenTourOf 19 = .ok (.ifCond .ne 18, 3) := by decide +kernel
theorem dX2_firstOpenTourOf_22 : decode cX2_firstOpenTourOf 22 = .ok (.aload_n 0, 1) := by decide +kernel
theorem dX2_firstOpenTourOf_23 : decode cX2_firstOpenTourOf 23 = .ok (.getfield 24, 3) := by decide +kernel
theorem dX2_firstOpenTourOf_26 : decode cX2_firstOpenTourOf 26 = .ok (.iload_n 2, 1) := by decide +kernel
theorem dX2_firstOpenTourOf_27 : decode cX2_firstOpenTourOf 27 = .ok (.aaload, 1) := by decide +kernel
theorem dX2_firstOpenTourOf_28 : decode cX2_firstOpenTourOf 28 = .ok (.iload_n 1, 1) := by decide +kernel
theorem dX2_firstOpenTourOf_29 : decode cX2_firstOpenTourOf 29 = .ok (.invokevirtual 78, 3) := by decide +kernel
theorem dX2_firstOpenTourOf_32 : decode cX2_firstOpenTourOf 32 = .ok (.ifCond .eq 5, 3) := by decide +kernel
theorem dX2_firstOpenTourOf_35 : decode cX2_firstOpenTourOf 35 = .ok (.iload_n 2, 1) := by decide +kernel
theorem dX2_firstOpenTourOf_36 : decode cX2_firstOpenTourOf 36 = .ok (.ireturn, 1) := by decide +kernel
theorem dX2_firstOpenTourOf_37 : decode cX2_firstOpenTourOf 37 = .ok (.iinc 2 1, 3) := by decide +kernel
theorem dX2_firstOpenTourOf_40 : decode cX2_firstOpenTourOf 40 = .ok (.goto (-38), 3) := by decide +kernel
theorem dX2_firstOpenTourOf_43 : decode cX2_firstOpenTourOf 43 = .ok (.bipush (-5), 2) := by decide +kernel
theorem dX2_firstOpenTourOf_45 : decode cX2_firstOpenTourOf 45 = .ok (.ireturn, 1) := by decide +kernel
theorem dX2_neededBy_0 : decode cX2_neededBy 0 = .ok (.iconst 0, 1) := by decide +kernel
theorem dX2_neededBy_1 : decode cX2_neededBy 1 = .ok (.istore_n 2, 1) := by decide +kernel
theorem dX2_neededBy_2 : decode cX2_neededBy 2 = .ok (.aload_n 1, 1) := by decide +kernel
theorem dX2_neededBy_3 : decode cX2_neededBy 3 = .ok (.getfield 87, 3) := by decide +kernel
theorem dX2_neededBy_6 : decode cX2_neededBy 6 = .ok (.istore_n 3, 1) := by decide +kernel
theorem dX2_neededBy_7 : decode cX2_neededBy 7 = .ok (.iconst 0, 1) := by decide +kernel
theorem dX2_neededBy_8 : decode cX2_neededBy 8 = .ok (.istore 4, 2) := by decide +kernel
theorem dX2_neededBy_10 : decode cX2_neededBy 10 = .ok (.iload 4, 2) := by decide +kernel
theorem dX2_neededBy_12 : decode cX2_neededBy 12 = .ok (.aload_n 1, 1) := by decide +kernel
theorem dX2_neededBy_13 : decode cX2_neededBy 13 = .ok (.getfield 102, 3) := by decide +kernel
theorem dX2_neededBy_16 : decode cX2_neededBy 16 = .ok (.if_icmp .ge 40, 3) := by decide +kernel
theorem dX2_neededBy_19 : decode cX2_neededBy 19 = .ok (.aload_n 0, 1) := by decide +kernel
theorem dX2_neededBy_20 : decode cX2_neededBy 20 = .ok (.aload_n 1, 1) := by decide +kernel
theorem dX2_neededBy_21 : decode cX2_neededBy 21 = .ok (.iload 4, 2) := by decide +kernel
theorem dX2_neededBy_23 : decode cX2_neededBy 23 = .ok (.iconst 1, 1) := by decide +kernel
theorem dX2_neededBy_24 : decode cX2_neededBy 24 = .ok (.iadd, 1) := by decide +kernel
theorem dX2_neededBy_25 : decode cX2_neededBy 25 = .ok (.invokevirtual 98, 3) := by decide +kernel
theorem dX2_neededBy_28 : decode cX2_neededBy 28 = .ok (.istore 5, 2) := by decide +kernel
theorem dX2_neededBy_30 : decode cX2_neededBy 30 = .ok (.iload_n 3, 1) := by decide +kernel
theorem dX2_neededBy_31 : decode cX2_neededBy 31 = .ok (.iload 5, 2) := by decide +kernel
theorem dX2_neededBy_33 : decode cX2_neededBy 33 = .ok (.isub, 1) := by decide +kernel
theorem dX2_neededBy_34 : decode cX2_neededBy 34 = .ok (.iload_n 2, 1) := by decide +kernel
theorem dX2_neededBy_35 : decode cX2_neededBy 35 = .ok (.if_icmp .le 10, 3) := by decide +kernel
theorem dX2_neededBy_38 : decode cX2_neededBy 38 = .ok (.iload_n 3, 1) := by decide +kernel
theorem dX2_neededBy_39 : decode cX2_neededBy 39 = .ok (.iload 5, 2) := by decide +kernel
theorem dX2_neededBy_41 : decode cX2_neededBy 41 = .ok (.isub, 1) := by decide +kernel
theorem dX2_neededBy_42 : decode cX2_neededBy 42 = .ok (.goto 4, 3) := by decide +kernel
theorem dX2_neededBy_45 : decode cX2_neededBy 45 = .ok (.iload_n 2, 1) := by decide +kernel
theorem dX2_neededBy_46 : decode cX2_neededBy 46 = .ok (.istore_n 2, 1) := by decide +kernel
theorem dX2_neededBy_47 : decode cX2_neededBy 47 = .ok (.iload 5, 2) := by decide +kernel
theorem dX2_neededBy_49 : decode cX2_neededBy 49 = .ok (.istore_n 3, 1) := by decide +kernel
theorem dX2_neededBy_50 : decode cX2_neededBy 50 = .ok (.iinc 4 1, 3) := by decide +kernel
theorem dX2_neededBy_53 : decode cX2_neededBy 53 = .ok (.goto (-43), 3) := by decide +kernel
theorem dX2_neededBy_56 : decode cX2_neededBy 56 = .ok (.ldc2_w 104, 3) := by decide +kernel
theorem dX2_neededBy_59 : decode cX2_neededBy 59 = .ok (.ldc2_w 106, 3) := by decide +kernel
theorem dX2_neededBy_62 : decode cX2_neededBy 62 = .ok (.iload_n 2, 1) := by decide +kernel
theorem dX2_neededBy_63 : decode cX2_neededBy 63 = .ok (.iconst 1, 1) := by decide +kernel
theorem dX2_neededBy_64 : decode cX2_neededBy 64 = .ok (.iadd, 1) := by decide +kernel
theorem dX2_neededBy_65 : decode cX2_neededBy 65 = .ok (.i2d, 1) := by decide +kernel
theorem dX2_neededBy_66 : decode cX2_neededBy 66 = .ok (.dmul, 1) := by decide +kernel
theorem dX2_neededBy_67 : decode cX2_neededBy 67 = .ok (.dadd, 1) := by decide +kernel
theorem dX2_neededBy_68 : decode cX2_neededBy 68 = .ok (.dreturn, 1) := by decide +kernel
theorem dX2_allBridgesHold_0 : decode cX2_allBridgesHold 0 = .ok (.aload_n 0, 1) := by decide +kernel
theorem dX2_allBridgesHold_1 : decode cX2_allBridgesHold 1 = .ok (.aload_n 1, 1) := by decide +kernel
theorem dX2_allBridgesHold_2 : decode cX2_allBridgesHold 2 = .ok (.invokevirtual 108, 3) := by decide +kernel
theorem dX2_allBridgesHold_5 : decode cX2_allBridgesHold 5 = .ok (.dstore_n 2, 1) := by decide +kernel
theorem dX2_allBridgesHold_6 : decode cX2_allBridgesHold 6 = .ok (.iconst 0, 1) := by decide +kernel
theorem dX2_allBridgesHold_7 : decode cX2_allBridgesHold 7 = .ok (.istore 4, 2) := by decide +kernel
theorem dX2_allBridgesHold_9 : decode cX2_allBridgesHold 9 = .ok (.iload 4, 2) := by decide +kernel
theorem dX2_allBridgesHold_11 : decode cX2_allBridgesHold 11 = .ok (.aload_n 0, 1) := by decide +kernel
theorem dX2_allBridgesHold_12 : decode cX2_allBridgesHold 12 = .ok (.getfield 49, 3) := by decide +kernel
theorem dX2_allBridgesHold_15 : decode cX2_allBridgesHold 15 = .ok (.if_icmp .ge 35, 3) := by decide +kernel
theorem dX2_allBridgesHold_18 : decode cX2_allBridgesHold 18 = .ok (.aload_n 1, 1) := by decide +kernel
theorem dX2_allBridgesHold_19 : decode cX2_allBridgesHold 19 = .ok (.getfield 112, 3) := by decide +kernel
theorem dX2_allBridgesHold_22 : decode cX2_allBridgesHold 22 = .ok (.iload 4, 2) := by decide +kernel
theorem dX2_allBridgesHold_24 : decode cX2_allBridgesHold 24 = .ok (.ishr, 1) := by decide +kernel
theorem dX2_allBridgesHold_25 : decode cX2_allBridgesHold 25 = .ok (.iconst 1, 1) := by decide +kernel
theorem dX2_allBridgesHold_26 : decode cX2_allBridgesHold 26 = .ok (.iand, 1) := by decide +kernel
theorem dX2_allBridgesHold_27 : decode cX2_allBridgesHold 27 = .ok (.ifCond .eq 17, 3) := by decide +kernel
theorem dX2_allBridgesHold_30 : decode cX2_allBridgesHold 30 = .ok (.aload_n 0, 1) := by decide +kernel
theorem dX2_allBridgesHold_31 : decode cX2_allBridgesHold 31 = .ok (.getfield 18, 3) := by decide +kernel
theorem dX2_allBridgesHold_34 : decode cX2_allBridgesHold 34 = .ok (.iload 4, 2) := by decide +kernel
theorem dX2_allBridgesHold_36 : decode cX2_allBridgesHold 36 = .ok (.daload, 1) := by decide +kernel
theorem dX2_allBridgesHold_37 : decode cX2_allBridgesHold 37 = .ok (.dload_n 2, 1) := by decide +kernel
theorem dX2_allBridgesHold_38 : decode cX2_allBridgesHold 38 = .ok (.dcmp .l, 1) := by decide +kernel
theorem dX2_allBridgesHold_39 : decode cX2_allBridgesHold 39 = .ok (.ifCond .ge 5, 3) := by decide +kernel
theorem dX2_allBridgesHold_42 : decode cX2_allBridgesHold 42 = .ok (.iconst 0, 1) := by decide +kernel
theorem dX2_allBridgesHold_43 : decode cX2_allBridgesHold 43 = .ok (.ireturn, 1) := by decide +kernel
theorem dX2_allBridgesHold_44 : decode cX2_allBridgesHold 44 = .ok (.iinc 4 1, 3) := by decide +kernel
theorem dX2_allBridgesHold_47 : decode cX2_allBridgesHold 47 = .ok (.goto (-38), 3) := by decide +kernel
theorem dX2_allBridgesHold_50 : decode cX2_allBridgesHold 50 = .ok (.iconst 1, 1) := by decide +kernel
theorem dX2_allBridgesHold_51 : decode cX2_allBridgesHold 51 = .ok (.ireturn, 1) := by decide +kernel
theorem dX2_dayLater_0 : decode cX2_dayLater 0 = .ok (.aload_n 0, 1) := by decide +kernel
theorem dX2_dayLater_1 : decode cX2_dayLater 1 = .ok (.getfield 59, 3) := by decide +kernel
theorem dX2_dayLater_4 : decode cX2_dayLater 4 = .ok (.dconst 0, 1) := by decide +kernel
theorem dX2_dayLater_5 : decode cX2_dayLater 5 = .ok (.dcmp .l, 1) := by decide +kernel
theorem dX2_dayLater_6 : decode cX2_dayLater 6 = .ok (.ifCond .le 26, 3) := by decide +kernel
theorem dX2_dayLater_9 : decode cX2_dayLater 9 = .ok (.dload_n 1, 1) := by decide +kernel
theorem dX2_dayLater_10 : decode cX2_dayLater 10 = .ok (.ldc2_w 115, 3) := by decide +kernel
theorem dX2_dayLater_13 : decode cX2_dayLater 13 = .ok (.aload_n 0, 1) := by decide +kernel
theorem dX2_dayLater_14 : decode cX2_dayLater 14 = .ok (.getfield 59, 3) := by decide +kernel
theorem dX2_dayLater_17 : decode cX2_dayLater 17 = .ok (.dmul, 1) := by decide +kernel
theorem dX2_dayLater_18 : decode cX2_dayLater 18 = .ok (.dsub, 1) := by decide +kernel
theorem dX2_dayLater_19 : decode cX2_dayLater 19 = .ok (.dstore_n 3, 1) := by decide +kernel
theorem dX2_dayLater_20 : decode cX2_dayLater 20 = .ok (.dload_n 3, 1) := by decide +kernel
theorem dX2_dayLater_21 : decode cX2_dayLater 21 = .ok (.dconst 0, 1) := by decide +kernel
theorem dX2_dayLater_22 : decode cX2_dayLater 22 = .ok (.dcmp .g, 1) := by decide +kernel
theorem dX2_dayLater_23 : decode cX2_dayLater 23 = .ok (.ifCond .ge 7, 3) := by decide +kernel
theorem dX2_dayLater_26 : decode cX2_dayLater 26 = .ok (.dconst 0, 1) := by decide +kernel
theorem dX2_dayLater_27 : decode cX2_dayLater 27 = .ok (.goto 4, 3) := by decide +kernel
theorem dX2_dayLater_30 : decode cX2_dayLater 30 = .ok (.dload_n 3, 1) := by decide +kernel
theorem dX2_dayLater_31 : decode cX2_dayLater 31 = .ok (.dreturn, 1) := by decide +kernel
theorem dX2_dayLater_32 : decode cX2_dayLater 32 = .ok (.aload_n 0, 1) := by decide +kernel
theorem dX2_dayLater_33 : decode cX2_dayLater 33 = .ok (.getfield 59, 3) := by decide +kernel
theorem dX2_dayLater_36 : decode cX2_dayLater 36 = .ok (.dconst 0, 1) := by decide +kernel
theorem dX2_dayLater_37 : decode cX2_dayLater 37 = .ok (.dcmp .g, 1) := by decide +kernel
theorem dX2_dayLater_38 : decode cX2_dayLater 38 = .ok (.ifCond .ge 30, 3) := by decide +kernel
theorem dX2_dayLater_41 : decode cX2_dayLater 41 = .ok (.dload_n 1, 1) := by decide +kernel
theorem dX2_dayLater_42 : decode cX2_dayLater 42 = .ok (.ldc2_w 117, 3) := by decide +kernel
theorem dX2_dayLater_45 : decode cX2_dayLater 45 = .ok (.aload_n 0, 1) := by decide +kernel
theorem dX2_dayLater_46 : decode cX2_dayLater 46 = .ok (.getfield 59, 3) := by decide +kernel
theorem dX2_dayLater_49 : decode cX2_dayLater 49 = .ok (.dmul, 1) := by decide +kernel
theorem dX2_dayLater_50 : decode cX2_dayLater 50 = .ok (.dsub, 1) := by decide +kernel
theorem dX2_dayLater_51 : decode cX2_dayLater 51 = .ok (.dstore_n 3, 1) := by decide +kernel
theorem dX2_dayLater_52 : decode cX2_dayLater 52 = .ok (.dload_n 3, 1) := by decide +kernel
theorem dX2_dayLater_53 : decode cX2_dayLater 53 = .ok (.ldc2_w 119, 3) := by decide +kernel
theorem dX2_dayLater_56 : decode cX2_dayLater 56 = .ok (.dcmp .l, 1) := by decide +kernel
theorem dX2_dayLater_57 : decode cX2_dayLater 57 = .ok (.ifCond .le 9, 3) := by decide +kernel
theorem dX2_dayLater_60 : decode cX2_dayLater 60 = .ok (.ldc2_w 119, 3) := by decide +kernel
theorem dX2_dayLater_63 : decode cX2_dayLater 63 = .ok (.goto 4, 3) := by decide +kernel
theorem dX2_dayLater_66 : decode cX2_dayLater 66 = .ok (.dload_n 3, 1) := by decide +kernel
theorem dX2_dayLater_67 : decode cX2_dayLater 67 = .ok (.dreturn, 1) := by decide +kernel
theorem dX2_dayLater_68 : decode cX2_dayLater 68 = .ok (.dload_n 1, 1) := by decide +kernel
theorem dX2_dayLater_69 : decode cX2_dayLater 69 = .ok (.dreturn, 1) := by decide +kernel
theorem dX2_causeAgainst_0 : decode cX2_causeAgainst 0 = .ok (.aload_n 1, 1) := by decide +kernel
theorem dX2_causeAgainst_1 : decode cX2_causeAgainst 1 = .ok (.getfield 87, 3) := by decide +kernel
theorem dX2_causeAgainst_4 : decode cX2_causeAgainst 4 = .ok (.ifCond .ne 5, 3) := by decide +kernel
theorem dX2_causeAgainst_7 : decode cX2_causeAgainst 7 = .ok (.iconst 1, 1) := by decide +kernel
theorem dX2_causeAgainst_8 : decode cX2_causeAgainst 8 = .ok (.ireturn, 1) := by decide +kernel
theorem dX2_causeAgainst_9 : decode cX2_causeAgainst 9 = .ok (.aload_n 0, 1) := by decide +kernel
theorem dX2_causeAgainst_10 : decode cX2_causeAgainst 10 = .ok (.aload_n 1, 1) := by decide +kernel
theorem dX2_causeAgainst_11 : decode cX2_causeAgainst 11 = .ok (.invokevirtual 121, 3) := by decide +kernel
theorem dX2_causeAgainst_14 : decode cX2_causeAgainst 14 = .ok (.ifCond .ne 5, 3) := by decide +kernel
theorem dX2_causeAgainst_17 : decode cX2_causeAgainst 17 = .ok (.iconst 2, 1) := by decide +kernel
theorem dX2_causeAgainst_18 : decode cX2_causeAgainst 18 = .ok (.ireturn, 1) := by decide +kernel
theorem dX2_causeAgainst_19 : decode cX2_causeAgainst 19 = .ok (.aload_n 0, 1) := by decide +kernel
theorem dX2_causeAgainst_20 : decode cX2_causeAgainst 20 = .ok (.aload_n 1, 1) := by decide +kernel
theorem dX2_causeAgainst_21 : decode cX2_causeAgainst 21 = .ok (.aload_n 1, 1) := by decide +kernel
theorem dX2_causeAgainst_22 : decode cX2_causeAgainst 22 = .ok (.getfield 102, 3) := by decide +kernel
theorem dX2_causeAgainst_25 : decode cX2_causeAgainst 25 = .ok (.invokevirtual 98, 3) := by decide +kernel
theorem dX2_causeAgainst_28 : decode cX2_causeAgainst 28 = .ok (.ifCond .gt 11, 3) := by decide +kernel
theorem dX2_causeAgainst_31 : decode cX2_causeAgainst 31 = .ok (.aload_n 0, 1) := by decide +kernel
theorem dX2_causeAgainst_32 : decode cX2_causeAgainst 32 = .ok (.aload_n 1, 1) := by decide +kernel
theorem dX2_causeAgainst_33 : decode cX2_causeAgainst 33 = .ok (.invokevirtual 125, 3) := by decide +kernel
theorem dX2_causeAgainst_36 : decode cX2_causeAgainst 36 = .ok (.ifCond .ne 5, 3) := by decide +kernel
theorem dX2_causeAgainst_39 : decode cX2_causeAgainst 39 = .ok (.iconst 3, 1) := by decide +kernel
theorem dX2_causeAgainst_40 : decode cX2_causeAgainst 40 = .ok (.ireturn, 1) := by decide +kernel
theorem dX2_causeAgainst_41 : decode cX2_causeAgainst 41 = .ok (.iconst 0, 1) := by decide +kernel
theorem dX2_causeAgainst_42 : decode cX2_causeAgainst 42 = .ok (.ireturn, 1) := by decide +kernel
theorem dX2_allGuidesAreValid_0 : decode cX2_allGuidesAreValid 0 = .ok (.iconst 0, 1) := by decide +kernel
theorem dX2_allGuidesAreValid_1 : decode cX2_allGuidesAreValid 1 = .ok (.istore_n 2, 1) := by decide +kernel
theorem dX2_allGuidesAreValid_2 : decode cX2_allGuidesAreValid 2 = .ok (.iload_n 2, 1) := by decide +kernel
theorem dX2_allGuidesAreValid_3 : decode cX2_allGuidesAreValid 3 = .ok (.aload_n 1, 1) := by decide +kernel
theorem dX2_allGuidesAreValid_4 : decode cX2_allGuidesAreValid 4 = .ok (.getfield 102, 3) := by decide +kernel
theorem dX2_allGuidesAreValid_7 : decode cX2_allGuidesAreValid 7 = .ok (.if_icmp .ge 32, 3) := by decide +kernel
theorem dX2_allGuidesAreValid_10 : decode cX2_allGuidesAreValid 10 = .ok (.aload_n 0, 1) := by decide +kernel
theorem dX2_allGuidesAreValid_11 : decode cX2_allGuidesAreValid 11 = .ok (.getfield 11, 3) := by decide +kernel
theorem dX2_allGuidesAreValid_14 : decode cX2_allGuidesAreValid 14 = .ok (.aload_n 1, 1) := by decide +kernel
theorem dX2_allGuidesAreValid_15 : decode cX2_allGuidesAreValid 15 = .ok (.getfield 90, 3) := by decide +kernel
theorem dX2_allGuidesAreValid_18 : decode cX2_allGuidesAreValid 18 = .ok (.iload_n 2, 1) := by decide +kernel
theorem dX2_allGuidesAreValid_19 : decode cX2_allGuidesAreValid 19 = .ok (.iaload, 1) := by decide +kernel
theorem dX2_allGuidesAreValid_20 : decode cX2_allGuidesAreValid 20 = .ok (.aaload, 1) := by decide +kernel
theorem dX2_allGuidesAreValid_21 : decode cX2_allGuidesAreValid 21 = .ok (.aload_n 1, 1) := by decide +kernel
theorem dX2_allGuidesAreValid_22 : decode cX2_allGuidesAreValid 22 = .ok (.getfield 69, 3) := by decide +kernel
theorem dX2_allGuidesAreValid_25 : decode cX2_allGuidesAreValid 25 = .ok (.invokevirtual 70, 3) := by decide +kernel
theorem dX2_allGuidesAreValid_28 : decode cX2_allGuidesAreValid 28 = .ok (.ifCond .ne 5, 3) := by decide +kernel
theorem dX2_allGuidesAreValid_31 : decode cX2_allGuidesAreValid 31 = .ok (.iconst 0, 1) := by decide +kernel
theorem dX2_allGuidesAreValid_32 : decode cX2_allGuidesAreValid 32 = .ok (.ireturn, 1) := by decide +kernel
theorem dX2_allGuidesAreValid_33 : decode cX2_allGuidesAreValid 33 = .ok (.iinc 2 1, 3) := by decide +kernel
theorem dX2_allGuidesAreValid_36 : decode cX2_allGuidesAreValid 36 = .ok (.goto (-34), 3) := by decide +kernel
theorem dX2_allGuidesAreValid_39 : decode cX2_allGuidesAreValid 39 = .ok (.iconst 1, 1) := by decide +kernel
theorem dX2_allGuidesAreValid_40 : decode cX2_allGuidesAreValid 40 = .ok (.ireturn, 1) := by decide +kernel
theorem dX2_passDay_0 : decode cX2_passDay 0 = .ok (.iconst 0, 1) := by decide +kernel
theorem dX2_passDay_1 : decode cX2_passDay 1 = .ok (.istore_n 1, 1) := by decide +kernel
theorem dX2_passDay_2 : decode cX2_passDay 2 = .ok (.iconst 0, 1) := by decide +kernel
theorem dX2_passDay_3 : decode cX2_passDay 3 = .ok (.istore_n 2, 1) := by decide +kernel
theorem dX2_passDay_4 : decode cX2_passDay 4 = .ok (.iload_n 2, 1) := by decide +kernel
theorem dX2_passDay_5 : decode cX2_passDay 5 = .ok (.aload_n 0, 1) := by decide +kernel
theorem dX2_passDay_6 : decode cX2_passDay 6 = .ok (.getfield 43, 3) := by decide +kernel
theorem dX2_passDay_9 : decode cX2_passDay 9 = .ok (.if_icmp .ge 65, 3) := by decide +kernel
theorem dX2_passDay_12 : decode cX2_passDay 12 = .ok (.aload_n 0, 1) := by decide +kernel
theorem dX2_passDay_13 : decode cX2_passDay 13 = .ok (.getfield 24, 3) := by decide +kernel
theorem dX2_passDay_16 : decode cX2_passDay 16 = .ok (.iload_n 2, 1) := by decide +kernel
theorem dX2_passDay_17 : decode cX2_passDay 17 = .ok (.aaload, 1) := by decide +kernel
theorem dX2_passDay_18 : decode cX2_passDay 18 = .ok (.astore_n 3, 1) := by decide +kernel
theorem dX2_passDay_19 : decode cX2_passDay 19 = .ok (.aload_n 3, 1) := by decide +kernel
theorem dX2_passDay_20 : decode cX2_passDay 20 = .ok (.getfield 66, 3) := by decide +kernel
theorem dX2_passDay_23 : decode cX2_passDay 23 = .ok (.ifCond .ne 45, 3) := by decide +kernel
theorem dX2_passDay_26 : decode cX2_passDay 26 = .ok (.aload_n 3, 1) := by decide +kernel
theorem dX2_passDay_27 : decode cX2_passDay 27 = .ok (.getfield 69, 3) := by decide +kernel
theorem dX2_passDay_30 : decode cX2_passDay 30 = .ok (.aload_n 0, 1) := by decide +kernel
theorem dX2_passDay_31 : decode cX2_passDay 31 = .ok (.getfield 52, 3) := by decide +kernel
theorem dX2_passDay_34 : decode cX2_passDay 34 = .ok (.if_icmp .ne 34, 3) := by decide +kernel
theorem dX2_passDay_37 : decode cX2_passDay 37 = .ok (.aload_n 0, 1) := by decide +kernel
theorem dX2_passDay_38 : decode cX2_passDay 38 = .ok (.aload_n 3, 1) := by decide +kernel
theorem dX2_passDay_39 : decode cX2_passDay 39 = .ok (.invokevirtual 128, 3) := by decide +kernel
theorem dX2_passDay_42 : decode cX2_passDay 42 = .ok (.istore 4, 2) := by decide +kernel
theorem dX2_passDay_44 : decode cX2_passDay 44 = .ok (.iload 4, 2) := by decide +kernel
theorem dX2_passDay_46 : decode cX2_passDay 46 = .ok (.ifCond .ne 14, 3) := by decide +kernel
theorem dX2_passDay_49 : decode cX2_passDay 49 = .ok (.aload_n 0, 1) := by decide +kernel
theorem dX2_passDay_50 : decode cX2_passDay 50 = .ok (.aload_n 3, 1) := by decide +kernel
theorem dX2_passDay_51 : decode cX2_passDay 51 = .ok (.invokevirtual 132, 3) := by decide +kernel
theorem dX2_passDay_54 : decode cX2_passDay 54 = .ok (.iinc 1 1, 3) := by decide +kernel
theorem dX2_passDay_57 : decode cX2_passDay 57 = .ok (.goto 11, 3) := by decide +kernel
theorem dX2_passDay_60 : decode cX2_passDay 60 = .ok (.aload_n 0, 1) := by decide +kernel
theorem dX2_passDay_61 : decode cX2_passDay 61 = .ok (.aload_n 3, 1) := by decide +kernel
theorem dX2_passDay_62 : decode cX2_passDay 62 = .ok (.iload 4, 2) := by decide +kernel
theorem dX2_passDay_64 : decode cX2_passDay 64 = .ok (.invokevirtual 135, 3) := by decide +kernel
theorem dX2_passDay_67 : decode cX2_passDay 67 = .ok (.pop, 1) := by decide +kernel
theorem dX2_passDay_68 : decode cX2_passDay 68 = .ok (.iinc 2 1, 3) := by decide +kernel
theorem dX2_passDay_71 : decode cX2_passDay 71 = .ok (.goto (-67), 3) := by decide +kernel
theorem dX2_passDay_74 : decode cX2_passDay 74 = .ok (.iconst 0, 1) := by decide +kernel
theorem dX2_passDay_75 : decode cX2_passDay 75 = .ok (.istore_n 2, 1) := by decide +kernel
theorem dX2_passDay_76 : decode cX2_passDay 76 = .ok (.iload_n 2, 1) := by decide +kernel
theorem dX2_passDay_77 : decode cX2_passDay 77 = .ok (.aload_n 0, 1) := by decide +kernel
theorem dX2_passDay_78 : decode cX2_passDay 78 = .ok (.getfield 49, 3) := by decide +kernel
theorem dX2_passDay_81 : decode cX2_passDay 81 = .ok (.if_icmp .ge 25, 3) := by decide +kernel
theorem dX2_passDay_84 : decode cX2_passDay 84 = .ok (.aload_n 0, 1) := by decide +kernel
theorem dX2_passDay_85 : decode cX2_passDay 85 = .ok (.getfield 18, 3) := by decide +kernel
theorem dX2_passDay_88 : decode cX2_passDay 88 = .ok (.iload_n 2, 1) := by decide +kernel
theorem dX2_passDay_89 : decode cX2_passDay 89 = .ok (.aload_n 0, 1) := by decide +kernel
theorem dX2_passDay_90 : decode cX2_passDay 90 = .ok (.aload_n 0, 1) := by decide +kernel
theorem dX2_passDay_91 : decode cX2_passDay 91 = .ok (.getfield 18, 3) := by decide +kernel
theorem dX2_passDay_94 : decode cX2_passDay 94 = .ok (.iload_n 2, 1) := by decide +kernel
theorem dX2_passDay_95 : decode cX2_passDay 95 = .ok (.daload, 1) := by decide +kernel
theorem dX2_passDay_96 : decode cX2_passDay 96 = .ok (.invokevirtual 138, 3) := by decide +kernel
theorem dX2_passDay_99 : decode cX2_passDay 99 = .ok (.dastore, 1) := by decide +kernel
theorem dX2_passDay_100 : decode cX2_passDay 100 = .ok (.iinc 2 1, 3) := by decide +kernel
theorem dX2_passDay_103 : decode cX2_passDay 103 = .ok (.goto (-27), 3) := by decide +kernel
theorem dX2_passDay_106 : decode cX2_passDay 106 = .ok (.aload_n 0, 1) := by decide +kernel
theorem dX2_passDay_107 : decode cX2_passDay 107 = .ok (.dup, 1) := by decide +kernel
theorem dX2_passDay_108 : decode cX2_passDay 108 = .ok (.getfield 52, 3) := by decide +kernel
theorem dX2_passDay_111 : decode cX2_passDay 111 = .ok (.iconst 1, 1) := by decide +kernel
theorem dX2_passDay_112 : decode cX2_passDay 112 = .ok (.iadd, 1) := by decide +kernel
theorem dX2_passDay_113 : decode cX2_passDay 113 = .ok (.putfield 52, 3) := by decide +kernel
theorem dX2_passDay_116 : decode cX2_passDay 116 = .ok (.iload_n 1, 1) := by decide +kernel
theorem dX2_passDay_117 : decode cX2_passDay 117 = .ok (.ireturn, 1) := by decide +kernel
theorem dX2_letGo_0 : decode cX2_letGo 0 = .ok (.aload_n 1, 1) := by decide +kernel
theorem dX2_letGo_1 : decode cX2_letGo 1 = .ok (.iconst 1, 1) := by decide +kernel
theorem dX2_letGo_2 : decode cX2_letGo 2 = .ok (.putfield 66, 3) := by decide +kernel
theorem dX2_letGo_5 : decode cX2_letGo 5 = .ok (.iconst 0, 1) := by decide +kernel
theorem dX2_letGo_6 : decode cX2_letGo 6 = .ok (.istore_n 2, 1) := by decide +kernel
theorem dX2_letGo_7 : decode cX2_letGo 7 = .ok (.iload_n 2, 1) := by decide +kernel
theorem dX2_letGo_8 : decode cX2_letGo 8 = .ok (.aload_n 1, 1) := by decide +kernel
theorem dX2_letGo_9 : decode cX2_letGo 9 = .ok (.getfield 102, 3) := by decide +kernel
theorem dX2_letGo_12 : decode cX2_letGo 12 = .ok (.if_icmp .ge 29, 3) := by decide +kernel
theorem dX2_letGo_15 : decode cX2_letGo 15 = .ok (.aload_n 0, 1) := by decide +kernel
theorem dX2_letGo_16 : decode cX2_letGo 16 = .ok (.getfield 11, 3) := by decide +kernel
theorem dX2_letGo_19 : decode cX2_letGo 19 = .ok (.aload_n 1, 1) := by decide +kernel
theorem dX2_letGo_20 : decode cX2_letGo 20 = .ok (.getfield 90, 3) := by decide +kernel
theorem dX2_letGo_23 : decode cX2_letGo 23 = .ok (.iload_n 2, 1) := by decide +kernel
theorem dX2_letGo_24 : decode cX2_letGo 24 = .ok (.iaload, 1) := by decide +kernel
theorem dX2_letGo_25 : decode cX2_letGo 25 = .ok (.aaload, 1) := by decide +kernel
theorem dX2_letGo_26 : decode cX2_letGo 26 = .ok (.aload_n 0, 1) := by decide +kernel
theorem dX2_letGo_27 : decode cX2_letGo 27 = .ok (.aload_n 1, 1) := by decide +kernel
theorem dX2_letGo_28 : decode cX2_letGo 28 = .ok (.iload_n 2, 1) := by decide +kernel
theorem dX2_letGo_29 : decode cX2_letGo 29 = .ok (.invokevirtual 142, 3) := by decide +kernel
theorem dX2_letGo_32 : decode cX2_letGo 32 = .ok (.invokevirtual 145, 3) := by decide +kernel
theorem dX2_letGo_35 : decode cX2_letGo 35 = .ok (.iinc 2 1, 3) := by decide +kernel
theorem dX2_letGo_38 : decode cX2_letGo 38 = .ok (.goto (-31), 3) := by decide +kernel
theorem dX2_letGo_41 : decode cX2_letGo 41 = .ok (.return_, 1) := by decide +kernel
theorem dX2_callOff_0 : decode cX2_callOff 0 = .ok (.aload_n 1, 1) := by decide +kernel
theorem dX2_callOff_1 : decode cX2_callOff 1 = .ok (.getfield 149, 3) := by decide +kernel
theorem dX2_callOff_4 : decode cX2_callOff 4 = .ok (.istore_n 3, 1) := by decide +kernel
theorem dX2_callOff_5 : decode cX2_callOff 5 = .ok (.aload_n 1, 1) := by decide +kernel
theorem dX2_callOff_6 : decode cX2_callOff 6 = .ok (.iconst 2, 1) := by decide +kernel
theorem dX2_callOff_7 : decode cX2_callOff 7 = .ok (.putfield 66, 3) := by decide +kernel
theorem dX2_callOff_10 : decode cX2_callOff 10 = .ok (.aload_n 1, 1) := by decide +kernel
theorem dX2_callOff_11 : decode cX2_callOff 11 = .ok (.iload_n 2, 1) := by decide +kernel
theorem dX2_callOff_12 : decode cX2_callOff 12 = .ok (.putfield 152, 3) := by decide +kernel
theorem dX2_callOff_15 : decode cX2_callOff 15 = .ok (.aload_n 0, 1) := by decide +kernel
theorem dX2_callOff_16 : decode cX2_callOff 16 = .ok (.aload_n 1, 1) := by decide +kernel
theorem dX2_callOff_17 : decode cX2_callOff 17 = .ok (.iload_n 3, 1) := by decide +kernel
theorem dX2_callOff_18 : decode cX2_callOff 18 = .ok (.invokevirtual 155, 3) := by decide +kernel
theorem dX2_callOff_21 : decode cX2_callOff 21 = .ok (.iload_n 3, 1) := by decide +kernel
theorem dX2_callOff_22 : decode cX2_callOff 22 = .ok (.ireturn, 1) := by decide +kernel
theorem dX2_payBack_0 : decode cX2_payBack 0 = .ok (.aload_n 1, 1) := by decide +kernel
theorem dX2_payBack_1 : decode cX2_payBack 1 = .ok (.dup, 1) := by decide +kernel
theorem dX2_payBack_2 : decode cX2_payBack 2 = .ok (.getfield 149, 3) := by decide +kernel
theorem dX2_payBack_5 : decode cX2_payBack 5 = .ok (.iload_n 2, 1) := by decide +kernel
theorem dX2_payBack_6 : decode cX2_payBack 6 = .ok (.isub, 1) := by decide +kernel
theorem dX2_payBack_7 : decode cX2_payBack 7 = .ok (.putfield 149, 3) := by decide +kernel
theorem dX2_payBack_10 : decode cX2_payBack 10 = .ok (.aload_n 0, 1) := by decide +kernel
theorem dX2_payBack_11 : decode cX2_payBack 11 = .ok (.dup, 1) := by decide +kernel
theorem dX2_payBack_12 : decode cX2_payBack 12 = .ok (.getfield 63, 3) := by decide +kernel
theorem dX2_payBack_15 : decode cX2_payBack 15 = .ok (.iload_n 2, 1) := by decide +kernel
theorem dX2_payBack_16 : decode cX2_payBack 16 = .ok (.iadd, 1) := by decide +kernel
theorem dX2_payBack_17 : decode cX2_payBack 17 = .ok (.putfield 63, 3) := by decide +kernel
theorem dX2_payBack_20 : decode cX2_payBack 20 = .ok (.return_, 1) := by decide +kernel
theorem dX2_toursThatAre_0 : decode cX2_toursThatAre 0 = .ok (.iconst 0, 1) := by decide +kernel
theorem dX2_toursThatAre_1 : decode cX2_toursThatAre 1 = .ok (.istore_n 2, 1) := by decide +kernel
theorem dX2_toursThatAre_2 : decode cX2_toursThatAre 2 = .ok (.iconst 0, 1) := by decide +kernel
theorem dX2_toursThatAre_3 : decode cX2_toursThatAre 3 = .ok (.istore_n 3, 1) := by decide +kernel
theorem dX2_toursThatAre_4 : decode cX2_toursThatAre 4 = .ok (.iload_n 3, 1) := by decide +kernel
theorem dX2_toursThatAre_5 : decode cX2_toursThatAre 5 = .ok (.aload_n 0, 1) := by decide +kernel
theorem dX2_toursThatAre_6 : decode cX2_toursThatAre 6 = .ok (.getfield 43, 3) := by decide +kernel
theorem dX2_toursThatAre_9 : decode cX2_toursThatAre 9 = .ok (.if_icmp .ge 25, 3) := by decide +kernel
theorem dX2_toursThatAre_12 : decode cX2_toursThatAre 12 = .ok (.aload_n 0, 1) := by decide +kernel
theorem dX2_toursThatAre_13 : decode cX2_toursThatAre 13 = .ok (.getfield 24, 3) := by decide +kernel
theorem dX2_toursThatAre_16 : decode cX2_toursThatAre 16 = .ok (.iload_n 3, 1) := by decide +kernel
theorem dX2_toursThatAre_17 : decode cX2_toursThatAre 17 = .ok (.aaload, 1) := by decide +kernel
theorem dX2_toursThatAre_18 : decode cX2_toursThatAre 18 = .ok (.getfield 66, 3) := by decide +kernel
theorem dX2_toursThatAre_21 : decode cX2_toursThatAre 21 = .ok (.iload_n 1, 1) := by decide +kernel
theorem dX2_toursThatAre_22 : decode cX2_toursThatAre 22 = .ok (.if_icmp .ne 6, 3) := by decide +kernel
theorem dX2_toursThatAre_25 : decode cX2_toursThatAre 25 = .ok (.iinc 2 1, 3) := by decide +kernel
theorem dX2_toursThatAre_28 : decode cX2_toursThatAre 28 = .ok (.iinc 3 1, 3) := by decide +kernel
theorem dX2_toursThatAre_31 : decode cX2_toursThatAre 31 = .ok (.goto (-27), 3) := by decide +kernel
theorem dX2_toursThatAre_34 : decode cX2_toursThatAre 34 = .ok (.iload_n 2, 1) := by decide +kernel
theorem dX2_toursThatAre_35 : decode cX2_toursThatAre 35 = .ok (.ireturn, 1) := by decide +kernel
theorem dX2_allPaid_0 : decode cX2_allPaid 0 = .ok (.iconst 0, 1) := by decide +kernel
theorem dX2_allPaid_1 : decode cX2_allPaid 1 = .ok (.istore_n 1, 1) := by decide +kernel
theorem dX2_allPaid_2 : decode cX2_allPaid 2 = .ok (.iconst 0, 1) := by decide +kernel
theorem dX2_allPaid_3 : decode cX2_allPaid 3 = .ok (.istore_n 2, 1) := by decide +kernel
theorem dX2_allPaid_4 : decode cX2_allPaid 4 = .ok (.iload_n 2, 1) := by decide +kernel
theorem dX2_allPaid_5 : decode cX2_allPaid 5 = .ok (.aload_n 0, 1) := by decide +kernel
theorem dX2_allPaid_6 : decode cX2_allPaid 6 = .ok (.getfield 43, 3) := by decide +kernel
theorem dX2_allPaid_9 : decode cX2_allPaid 9 = .ok (.if_icmp .ge 21, 3) := by decide +kernel
theorem dX2_allPaid_12 : decode cX2_allPaid 12 = .ok (.iload_n 1, 1) := by decide +kernel
theorem dX2_allPaid_13 : decode cX2_allPaid 13 = .ok (.aload_n 0, 1) := by decide +kernel
theorem dX2_allPaid_14 : decode cX2_allPaid 14 = .ok (.getfield 24, 3) := by decide +kernel
theorem dX2_allPaid_17 : decode cX2_allPaid 17 = .ok (.iload_n 2, 1) := by decide +kernel
theorem dX2_allPaid_18 : decode cX2_allPaid 18 = .ok (.aaload, 1) := by decide +kernel
theorem dX2_allPaid_19 : decode cX2_allPaid 19 = .ok (.getfield 149, 3) := by decide +kernel
theorem dX2_allPaid_22 : decode cX2_allPaid 22 = .ok (.iadd, 1) := by decide +kernel
theorem dX2_allPaid_23 : decode cX2_allPaid 23 = .ok (.istore_n 1, 1) := by decide +kernel
theorem dX2_allPaid_24 : decode cX2_allPaid 24 = .ok (.iinc 2 1, 3) := by decide +kernel
theorem dX2_allPaid_27 : decode cX2_allPaid 27 = .ok (.goto (-23), 3) := by decide +kernel
theorem dX2_allPaid_30 : decode cX2_allPaid 30 = .ok (.iload_n 1, 1) := by decide +kernel
theorem dX2_allPaid_31 : decode cX2_allPaid 31 = .ok (.ireturn, 1) := by decide +kernel
theorem dX2_guestsGone_0 : decode cX2_guestsGone 0 = .ok (.iconst 0, 1) := by decide +kernel
theorem dX2_guestsGone_1 : decode cX2_guestsGone 1 = .ok (.istore_n 1, 1) := by decide +kernel
theorem dX2_guestsGone_2 : decode cX2_guestsGone 2 = .ok (.iconst 0, 1) := by decide +kernel
theorem dX2_guestsGone_3 : decode cX2_guestsGone 3 = .ok (.istore_n 2, 1) := by decide +kernel
theorem dX2_guestsGone_4 : decode cX2_guestsGone 4 = .ok (.iload_n 2, 1) := by decide +kernel
theorem dX2_guestsGone_5 : decode cX2_guestsGone 5 = .ok (.aload_n 0, 1) := by decide +kernel
theorem dX2_guestsGone_6 : decode cX2_guestsGone 6 = .ok (.getfield 43, 3) := by decide +kernel
theorem dX2_guestsGone_9 : decode cX2_guestsGone 9 = .ok (.if_icmp .ge 34, 3) := by decide +kernel
theorem dX2_guestsGone_12 : decode cX2_guestsGone 12 = .ok (.aload_n 0, 1) := by decide +kernel
theorem dX2_guestsGone_13 : decode cX2_guestsGone 13 = .ok (.getfield 24, 3) := by decide +kernel
theorem dX2_guestsGone_16 : decode cX2_guestsGone 16 = .ok (.iload_n 2, 1) := by decide +kernel
theorem dX2_guestsGone_17 : decode cX2_guestsGone 17 = .ok (.aaload, 1) := by decide +kernel
theorem dX2_guestsGone_18 : decode cX2_guestsGone 18 = .ok (.getfield 66, 3) := by decide +kernel
theorem dX2_guestsGone_21 : decode cX2_guestsGone 21 = .ok (.iconst 1, 1) := by decide +kernel
theorem dX2_guestsGone_22 : decode cX2_guestsGone 22 = .ok (.if_icmp .ne 15, 3) := by decide +kernel
theorem dX2_guestsGone_25 : decode cX2_guestsGone 25 = .ok (.iload_n 1, 1) := by decide +kernel
theorem dX2_guestsGone_26 : decode cX2_guestsGone 26 = .ok (.aload_n 0, 1) := by decide +kernel
theorem dX2_guestsGone_27 : decode cX2_guestsGone 27 = .ok (.getfield 24, 3) := by decide +kernel
theorem dX2_guestsGone_30 : decode cX2_guestsGone 30 = .ok (.iload_n 2, 1) := by decide +kernel
theorem dX2_guestsGone_31 : decode cX2_guestsGone 31 = .ok (.aaload, 1) := by decide +kernel
theorem dX2_guestsGone_32 : decode cX2_guestsGone 32 = .ok (.getfield 87, 3) := by decide +kernel
theorem dX2_guestsGone_35 : decode cX2_guestsGone 35 = .ok (.iadd, 1) := by decide +kernel
theorem dX2_guestsGone_36 : decode cX2_guestsGone 36 = .ok (.istore_n 1, 1) := by decide +kernel
theorem dX2_guestsGone_37 : decode cX2_guestsGone 37 = .ok (.iinc 2 1, 3) := by decide +kernel
theorem dX2_guestsGone_40 : decode cX2_guestsGone 40 = .ok (.goto (-36), 3) := by decide +kernel
theorem dX2_guestsGone_43 : decode cX2_guestsGone 43 = .ok (.iload_n 1, 1) := by decide +kernel
theorem dX2_guestsGone_44 : decode cX2_guestsGone 44 = .ok (.ireturn, 1) := by decide +kernel
theorem dX3_init_0 : decode cX3_init 0 = .ok (.aload_n 0, 1) := by decide +kernel
theorem dX3_init_1 : decode cX3_init 1 = .ok (.invokespecial 3, 3) := by decide +kernel
theorem dX3_init_4 : decode cX3_init 4 = .ok (.aload_n 0, 1) := by decide +kernel
theorem dX3_init_5 : decode cX3_init 5 = .ok (.bipush 40, 2) := by decide +kernel
theorem dX3_init_7 : decode cX3_init 7 = .ok (.newarray .char, 2) := by decide +kernel
theorem dX3_init_9 : decode cX3_init 9 = .ok (.putfield 9, 3) := by decide +kernel
theorem dX3_init_12 : decode cX3_init 12 = .ok (.return_, 1) := by decide +kernel
theorem dX3_read_0 : decode cX3_read 0 = .ok (.aload_n 0, 1) := by decide +kernel
theorem dX3_read_1 : decode cX3_read 1 = .ok (.invokevirtual 19, 3) := by decide +kernel
theorem dX3_read_4 : decode cX3_read 4 = .ok (.istore_n 1, 1) := by decide +kernel
theorem dX3_read_5 : decode cX3_read 5 = .ok (.aload_n 0, 1) := by decide +kernel
theorem dX3_read_6 : decode cX3_read 6 = .ok (.aload_n 0, 1) := by decide +kernel
theorem dX3_read_7 : decode cX3_read 7 = .ok (.iload_n 1, 1) := by decide +kernel
theorem dX3_read_8 : decode cX3_read 8 = .ok (.invokevirtual 23, 3) := by decide +kernel
theorem dX3_read_11 : decode cX3_read 11 = .ok (.putfield 27, 3) := by decide +kernel
theorem dX3_read_14 : decode cX3_read 14 = .ok (.aload_n 0, 1) := by decide +kernel
theorem dX3_read_15 : decode cX3_read 15 = .ok (.getfield 27, 3) := by decide +kernel
theorem dX3_read_18 : decode cX3_read 18 = .ok (.ifCond .ne 5, 3) := by decide +kernel
theorem dX3_read_21 : decode cX3_read 21 = .ok (.iconst 0, 1) := by decide +kernel
theorem dX3_read_22 : decode cX3_read 22 = .ok (.ireturn, 1) := by decide +kernel
theorem dX3_read_23 : decode cX3_read 23 = .ok (.aload_n 0, 1) := by decide +kernel
theorem dX3_read_24 : decode cX3_read 24 = .ok (.getfield 27, 3) := by decide +kernel
theorem dX3_read_27 : decode cX3_read 27 = .ok (.iconst 4, 1) := by decide +kernel
theorem dX3_read_28 : decode cX3_read 28 = .ok (.if_icmp .ne 7, 3) := by decide +kernel
theorem dX3_read_31 : decode cX3_read 31 = .ok (.iconst 1, 1) := by decide +kernel
theorem dX3_read_32 : decode cX3_read 32 = .ok (.goto 4, 3) := by decide +kernel
theorem dX3_read_35 : decode cX3_read 35 = .ok (.iconst 2, 1) := by decide +kernel
theorem dX3_read_36 : decode cX3_read 36 = .ok (.istore_n 2, 1) := by decide +kernel
theorem dX3_read_37 : decode cX3_read 37 = .ok (.iconst 0, 1) := by decide +kernel
theorem dX3_read_38 : decode cX3_read 38 = .ok (.istore_n 3, 1) := by decide +kernel
theorem dX3_read_39 : decode cX3_read 39 = .ok (.iload_n 3, 1) := by decide +kernel
theorem dX3_read_40 : decode cX3_read 40 = .ok (.iload_n 2, 1) := by decide +kernel
theorem dX3_read_41 : decode cX3_read 41 = .ok (.if_icmp .ge 52, 3) := by decide +kernel
theorem dX3_read_44 : decode cX3_read 44 = .ok (.aload_n 0, 1) := by decide +kernel
theorem dX3_read_45 : decode cX3_read 45 = .ok (.iload_n 1, 1) := by decide +kernel
theorem dX3_read_46 : decode cX3_read 46 = .ok (.invokevirtual 30, 3) := by decide +kernel
theorem dX3_read_49 : decode cX3_read 49 = .ok (.ifCond .ne 5, 3) := by decide +kernel
theorem dX3_read_52 : decode cX3_read 52 = .ok (.iload_n 1, 1) := by decide +kernel
theorem dX3_read_53 : decode cX3_read 53 = .ok (.ireturn, 1) := by decide +kernel
theorem dX3_read_54 : decode cX3_read 54 = .ok (.iinc 1 1, 3) := by decide +kernel
theorem dX3_read_57 : decode cX3_read 57 = .ok (.aload_n 0, 1) := by decide +kernel
theorem dX3_read_58 : decode cX3_read 58 = .ok (.iload_n 1, 1) := by decide +kernel
theorem dX3_read_59 : decode cX3_read 59 = .ok (.invokevirtual 34, 3) := by decide +kernel
theorem dX3_read_62 : decode cX3_read 62 = .ok (.ifCond .ne 5, 3) := by decide +kernel
theorem dX3_read_65 : decode cX3_read 65 = .ok (.iload_n 1, 1) := by decide +kernel
theorem dX3_read_66 : decode cX3_read 66 = .ok (.ireturn, 1) := by decide +kernel
theorem dX3_read_67 : decode cX3_read 67 = .ok (.aload_n 0, 1) := by decide +kernel
theorem dX3_read_68 : decode cX3_read 68 = .ok (.iload_n 1, 1) := by decide +kernel
theorem dX3_read_69 : decode cX3_read 69 = .ok (.invokevirtual 37, 3) := by decide +kernel
theorem dX3_read_72 : decode cX3_read 72 = .ok (.istore 4, 2) := by decide +kernel
theorem dX3_read_74 : decode cX3_read 74 = .ok (.aload_n 0, 1) := by decide +kernel
theorem dX3_read_75 : decode cX3_read 75 = .ok (.iload_n 3, 1) := by decide +kernel
theorem dX3_read_76 : decode cX3_read 76 = .ok (.iload_n 1, 1) := by decide +kernel
theorem dX3_read_77 : decode cX3_read 77 = .ok (.iload 4, 2) := by decide +kernel
theorem dX3_read_79 : decode cX3_read 79 = .ok (.invokevirtual 40, 3) := by decide +kernel
theorem dX3_read_82 : decode cX3_read 82 = .ok (.iload_n 1, 1) := by decide +kernel
theorem dX3_read_83 : decode cX3_read 83 = .ok (.iload 4, 2) := by decide +kernel
theorem dX3_read_85 : decode cX3_read 85 = .ok (.iadd, 1) := by decide +kernel
theorem dX3_read_86 : decode cX3_read 86 = .ok (.istore_n 1, 1) := by decide +kernel
theorem dX3_read_87 : decode cX3_read 87 = .ok (.iinc 3 1, 3) := by decide +kernel
theorem dX3_read_90 : decode cX3_read 90 = .ok (.goto (-51), 3) := by decide +kernel
theorem dX3_read_93 : decode cX3_read 93 = .ok (.iload_n 1, 1) := by decide +kernel
theorem dX3_read_94 : decode cX3_read 94 = .ok (.aload_n 0, 1) := by decide +kernel
theorem dX3_read_95 : decode cX3_read 95 = .ok (.getfield 15, 3) := by decide +kernel
theorem dX3_read_98 : decode cX3_read 98 = .ok (.if_icmp .ge 7, 3) := by decide +kernel
theorem dX3_read_101 : decode cX3_read 101 = .ok (.iload_n 1, 1) := by decide +kernel
theorem dX3_read_102 : decode cX3_read 102 = .ok (.goto 4, 3) := by decide +kernel
theorem dX3_read_105 : decode cX3_read 105 = .ok (.iconst (-1), 1) := by decide +kernel
theorem dX3_read_106 : decode cX3_read 106 = .ok (.ireturn, 1) := by decide +kernel
theorem dX3_wordLength_0 : decode cX3_wordLength 0 = .ok (.iconst 0, 1) := by decide +kernel
theorem dX3_wordLength_1 : decode cX3_wordLength 1 = .ok (.istore_n 1, 1) := by decide +kernel
theorem dX3_wordLength_2 : decode cX3_wordLength 2 = .ok (.iload_n 1, 1) := by decide +kernel
theorem dX3_wordLength_3 : decode cX3_wordLength 3 = .ok (.aload_n 0, 1) := by decide +kernel
theorem dX3_wordLength_4 : decode cX3_wordLength 4 = .ok (.getfield 15, 3) := by decide +kernel
theorem dX3_wordLength_7 : decode cX3_wordLength 7 = .ok (.if_icmp .ge 31, 3) := by decide +kernel
theorem dX3_wordLength_10 : decode cX3_wordLength 10 = .ok (.aload_n 0, 1) := by decide +kernel
theorem dX3_wordLength_11 : decode cX3_wordLength 11 = .ok (.getfield 9, 3) := by decide +kernel
theorem dX3_wordLength_14 : decode cX3_wordLength 14 = .ok (.iload_n 1, 1) := by decide +kernel
theorem dX3_wordLength_15 : decode cX3_wordLength 15 = .ok (.caload, 1) := by decide +kernel
theorem dX3_wordLength_16 : decode cX3_wordLength 16 = .ok (.bipush 97, 2) := by decide +kernel
theorem dX3_wordLength_18 : decode cX3_wordLength 18 = .ok (.if_icmp .lt 20, 3) := by decide +kernel
theorem dX3_wordLength_21 : decode cX3_wordLength 21 = .ok (.aload_n 0, 1) := by decide +kernel
theorem dX3_wordLength_22 : decode cX3_wordLength 22 = .ok (.getfield 9, 3) := by decide +kernel
theorem dX3_wordLength_25 : decode cX3_wordLength 25 = .ok (.iload_n 1, 1) := by decide +kernel
theorem dX3_wordLength_26 : decode cX3_wordLength 26 = .ok (.caload, 1) := by decide +kernel
theorem dX3_wordLength_27 : decode cX3_wordLength 27 = .ok (.bipush 122, 2) := by decide +kernel
theorem dX3_wordLength_29 : decode cX3_wordLength 29 = .ok (.if_icmp .gt 9, 3) := by decide +kernel
theorem dX3_wordLength_32 : decode cX3_wordLength 32 = .ok (.iinc 1 1, 3) := by decide +kernel
theorem dX3_wordLength_35 : decode cX3_wordLength 35 = .ok (.goto (-33), 3) := by decide +kernel
theorem dX3_wordLength_38 : decode cX3_wordLength 38 = .ok (.iload_n 1, 1) := by decide +kernel
theorem dX3_wordLength_39 : decode cX3_wordLength 39 = .ok (.ireturn, 1) := by decide +kernel
theorem dX3_commandOf_0 : decode cX3_commandOf 0 = .ok (.aload_n 0, 1) := by decide +kernel
theorem dX3_commandOf_1 : decode cX3_commandOf 1 = .ok (.ldc 44, 2) := by decide +kernel
theorem dX3_commandOf_3 : decode cX3_commandOf 3 = .ok (.iload_n 1, 1) := by decide +kernel
theorem dX3_commandOf_4 : decode cX3_commandOf 4 = .ok (.invokevirtual 46, 3) := by decide +kernel
theorem dX3_commandOf_7 : decode cX3_commandOf 7 = .ok (.ifCond .eq 5, 3) := by decide +kernel
theorem dX3_commandOf_10 : decode cX3_commandOf 10 = .ok (.iconst 1, 1) := by decide +kernel
theorem dX3_commandOf_11 : decode cX3_commandOf 11 = .ok (.ireturn, 1) := by decide +kernel
theorem dX3_commandOf_12 : decode cX3_commandOf 12 = .ok (.aload_n 0, 1) := by decide +kernel
theorem dX3_commandOf_13 : decode cX3_commandOf 13 = .ok (.ldc 50, 2) := by decide +kernel
theorem dX3_commandOf_15 : decode cX3_commandOf 15 = .ok (.iload_n 1, 1) := by decide +kernel
theorem dX3_commandOf_16 : decode cX3_commandOf 16 = .ok (.invokevirtual 46, 3) := by decide +kernel
theorem dX3_commandOf_19 : decode cX3_commandOf 19 = .ok (.ifCond .eq 5, 3) := by decide +kernel
theorem dX3_commandOf_22 : decode cX3_commandOf 22 = .ok (.iconst 2, 1) := by decide +kernel
theorem dX3_commandOf_23 : decode cX3_commandOf 23 = .ok (.ireturn, 1) := by decide +kernel
theorem dX3_commandOf_24 : decode cX3_commandOf 24 = .ok (.aload_n 0, 1) := by decide +kernel
theorem dX3_commandOf_25 : decode cX3_commandOf 25 = .ok (.ldc 52, 2) := by decide +kernel
theorem dX3_commandOf_27 : decode cX3_commandOf 27 = .ok (.iload_n 1, 1) := by decide +kernel
theorem dX3_commandOf_28 : decode cX3_commandOf 28 = .ok (.invokevirtual 46, 3) := by decide +kernel
theorem dX3_commandOf_31 : decode cX3_commandOf 31 = .ok (.ifCond .eq 5, 3) := by decide +kernel
theorem dX3_commandOf_34 : decode cX3_commandOf 34 = .ok (.iconst 3, 1) := by decide +kernel
theorem dX3_commandOf_35 : decode cX3_commandOf 35 = .ok (.ireturn, 1) := by decide +kernel
theorem dX3_commandOf_36 : decode cX3_commandOf 36 = .ok (.aload_n 0, 1) := by decide +kernel
theorem dX3_commandOf_37 : decode cX3_commandOf 37 = .ok (.ldc 54, 2) := by decide +kernel
theorem dX3_commandOf_39 : decode cX3_commandOf 39 = .ok (.iload_n 1, 1) := by decide +kernel
theorem dX3_commandOf_40 : decode cX3_commandOf 40 = .ok (.invokevirtual 46, 3) := by decide +kernel
theorem dX3_commandOf_43 : decode cX3_commandOf 43 = .ok (.ifCond .eq 5, 3) := by decide +kernel
theorem dX3_commandOf_46 : decode cX3_commandOf 46 = .ok (.iconst 4, 1) := by decide +kernel
theorem dX3_commandOf_47 : decode cX3_commandOf 47 = .ok (.ireturn, 1) := by decide +kernel
theorem dX3_commandOf_48 : decode cX3_commandOf 48 = .ok (.aload_n 0, 1) := by decide +kernel
theorem dX3_commandOf_49 : decode cX3_commandOf 49 = .ok (.ldc 56, 2) := by decide +kernel
theorem dX3_commandOf_51 : decode cX3_commandOf 51 = .ok (.iload_n 1, 1) := by decide +kernel
theorem dX3_commandOf_52 : decode cX3_commandOf 52 = .ok (.invokevirtual 46, 3) := by decide +kernel
theorem dX3_commandOf_55 : decode cX3_commandOf 55 = .ok (.ifCond .eq 7, 3) := by decide +kernel
theorem dX3_commandOf_58 : decode cX3_commandOf 58 = .ok (.iconst 5, 1) := by decide +kernel
theorem dX3_commandOf_59 : decode cX3_commandOf 59 = .ok (.goto 4, 3) := by decide +kernel
theorem dX3_commandOf_62 : decode cX3_commandOf 62 = .ok (.iconst 0, 1) := by decide +kernel
theorem dX3_commandOf_63 : decode cX3_commandOf 63 = .ok (.ireturn, 1) := by decide +kernel
theorem dX3_isWord_0 : decode cX3_isWord 0 = .ok (.iload_n 2, 1) := by decide +kernel
theorem dX3_isWord_1 : decode cX3_isWord 1 = .ok (.aload_n 1, 1) := by decide +kernel
theorem dX3_isWord_2 : decode cX3_isWord 2 = .ok (.invokevirtual 58, 3) := by decide +kernel
theorem dX3_isWord_5 : decode cX3_isWord 5 = .ok (.if_icmp .ne 11, 3) := by decide +kernel
theorem dX3_isWord_8 : decode cX3_isWord 8 = .ok (.iload_n 2, 1) := by decide +kernel
theorem dX3_isWord_9 : decode cX3_isWord 9 = .ok (.aload_n 0, 1) := by decide +kernel
theorem dX3_isWord_10 : decode cX3_isWord 10 = .ok (.getfield 15, 3) := by decide +kernel
theorem dX3_isWord_13 : decode cX3_isWord 13 = .ok (.if_icmp .le 5, 3) := by decide +kernel
theorem dX3_isWord_16 : decode cX3_isWord 16 = .ok (.iconst 0, 1) := by decide +kernel
theorem dX3_isWord_17 : decode cX3_isWord 17 = .ok (.ireturn, 1) := by decide +kernel
theorem dX3_isWord_18 : decode cX3_isWord 18 = .ok (.iconst 0, 1) := by decide +kernel
theorem dX3_isWord_19 : decode cX3_isWord 19 = .ok (.istore_n 3, 1) := by decide +kernel
theorem dX3_isWord_20 : decode cX3_isWord 20 = .ok (.iload_n 3, 1) := by decide +kernel
theorem dX3_isWord_21 : decode cX3_isWord 21 = .ok (.iload_n 2, 1) := by decide +kernel
theorem dX3_isWord_22 : decode cX3_isWord 22 = .ok (.if_icmp .ge 25, 3) := by decide +kernel
theorem dX3_isWord_25 : decode cX3_isWord 25 = .ok (.aload_n 0, 1) := by decide +kernel
theorem dX3_isWord_26 : decode cX3_isWord 26 = .ok (.getfield 9, 3) := by decide +kernel
theorem dX3_isWord_29 : decode cX3_isWord 29 = .ok (.iload_n 3, 1) := by decide +kernel
theorem dX3_isWord_30 : decode cX3_isWord 30 = .ok (.caload, 1) := by decide +kernel
theorem dX3_isWord_31 : decode cX3_isWord 31 = .ok (.aload_n 1, 1) := by decide +kernel
theorem dX3_isWord_32 : decode cX3_isWord 32 = .ok (.iload_n 3, 1) := by decide +kernel
theorem dX3_isWord_33 : decode cX3_isWord 33 = .ok (.invokevirtual 62, 3) := by decide +kernel
theorem dX3_isWord_36 : decode cX3_isWord 36 = .ok (.if_icmp .eq 5, 3) := by decide +kernel
theorem dX3_isWord_39 : decode cX3_isWord 39 = .ok (.iconst 0, 1) := by decide +kernel
theorem dX3_isWord_40 : decode cX3_isWord 40 = .ok (.ireturn, 1) := by decide +kernel
theorem dX3_isWord_41 : decode cX3_isWord 41 = .ok (.iinc 3 1, 3) := by decide +kernel
theorem dX3_isWord_44 : decode cX3_isWord 44 = .ok (.goto (-24), 3) := by decide +kernel
theorem dX3_isWord_47 : decode cX3_isWord 47 = .ok (.iconst 1, 1) := by decide +kernel
theorem dX3_isWord_48 : decode cX3_isWord 48 = .ok (.ireturn, 1) := by decide +kernel
theorem dX3_isBlankAt_0 : decode cX3_isBlankAt 0 = .ok (.iload_n 1, 1) := by decide +kernel
theorem dX3_isBlankAt_1 : decode cX3_isBlankAt 1 = .ok (.aload_n 0, 1) := by decide +kernel
theorem dX3_isBlankAt_2 : decode cX3_isBlankAt 2 = .ok (.getfield 15, 3) := by decide +kernel
theorem dX3_isBlankAt_5 : decode cX3_isBlankAt 5 = .ok (.if_icmp .ge 18, 3) := by decide +kernel
theorem dX3_isBlankAt_8 : decode cX3_isBlankAt 8 = .ok (.aload_n 0, 1) := by decide +kernel
theorem dX3_isBlankAt_9 : decode cX3_isBlankAt 9 = .ok (.getfield 9, 3) := by decide +kernel
theorem dX3_isBlankAt_12 : decode cX3_isBlankAt 12 = .ok (.iload_n 1, 1) := by decide +kernel
theorem dX3_isBlankAt_13 : decode cX3_isBlankAt 13 = .ok (.caload, 1) := by decide +kernel
theorem dX3_isBlankAt_14 : decode cX3_isBlankAt 14 = .ok (.bipush 32, 2) := by decide +kernel
theorem dX3_isBlankAt_16 : decode cX3_isBlankAt 16 = .ok (.if_icmp .ne 7, 3) := by decide +kernel
theorem dX3_isBlankAt_19 : decode cX3_isBlankAt 19 = .ok (.iconst 1, 1) := by decide +kernel
theorem dX3_isBlankAt_20 : decode cX3_isBlankAt 20 = .ok (.goto 4, 3) := by decide +kernel
theorem dX3_isBlankAt_23 : decode cX3_isBlankAt 23 = .ok (.iconst 0, 1) := by decide +kernel
theorem dX3_isBlankAt_24 : decode cX3_isBlankAt 24 = .ok (.ireturn, 1) := by decide +kernel
theorem dX3_isDigitAt_0 : decode cX3_isDigitAt 0 = .ok (.iload_n 1, 1) := by decide +kernel
theorem dX3_isDigitAt_1 : decode cX3_isDigitAt 1 = .ok (.aload_n 0, 1) := by decide +kernel
theorem dX3_isDigitAt_2 : decode cX3_isDigitAt 2 = .ok (.getfield 15, 3) := by decide +kernel
theorem dX3_isDigitAt_5 : decode cX3_isDigitAt 5 = .ok (.if_icmp .ge 29, 3) := by decide +kernel
theorem dX3_isDigitAt_8 : decode cX3_isDigitAt 8 = .ok (.aload_n 0, 1) := by decide +kernel
theorem dX3_isDigitAt_9 : decode cX3_isDigitAt 9 = .ok (.getfield 9, 3) := by decide +kernel
theorem dX3_isDigitAt_12 : decode cX3_isDigitAt 12 = .ok (.iload_n 1, 1) := by decide +kernel
theorem dX3_isDigitAt_13 : decode cX3_isDigitAt 13 = .ok (.caload, 1) := by decide +kernel
theorem dX3_isDigitAt_14 : decode cX3_isDigitAt 14 = .ok (.bipush 48, 2) := by decide +kernel
theorem dX3_isDigitAt_16 : decode cX3_isDigitAt 16 = .ok (.if_icmp .lt 18, 3) := by decide +kernel
theorem dX3_isDigitAt_19 : decode cX3_isDigitAt 19 = .ok (.aload_n 0, 1) := by decide +kernel
theorem dX3_isDigitAt_20 : decode cX3_isDigitAt 20 = .ok (.getfield 9, 3) := by decide +kernel
theorem dX3_isDigitAt_23 : decode cX3_isDigitAt 23 = .ok (.iload_n 1, 1) := by decide +kernel
theorem dX3_isDigitAt_24 : decode cX3_isDigitAt 24 = .ok (.caload, 1) := by decide +kernel
theorem dX3_isDigitAt_25 : decode cX3_isDigitAt 25 = .ok (.bipush 57, 2) := by decide +kernel
theorem dX3_isDigitAt_27 : decode cX3_isDigitAt 27 = .ok (.if_icmp .gt 7, 3) := by decide +kernel
theorem dX3_isDigitAt_30 : decode cX3_isDigitAt 30 = .ok (.iconst 1, 1) := by decide +kernel
theorem dX3_isDigitAt_31 : decode cX3_isDigitAt 31 = .ok (.goto 4, 3) := by decide +kernel
theorem dX3_isDigitAt_34 : decode cX3_isDigitAt 34 = .ok (.iconst 0, 1) := by decide +kernel
theorem dX3_isDigitAt_35 : decode cX3_isDigitAt 35 = .ok (.ireturn, 1) := by decide +kernel
theorem dX3_digitsAt_0 : decode cX3_digitsAt 0 = .ok (.aload_n 0, 1) := by decide +kernel
theorem dX3_digitsAt_1 : decode cX3_digitsAt 1 = .ok (.getfield 9, 3) := by decide +kernel
theorem dX3_digitsAt_4 : decode cX3_digitsAt 4 = .ok (.iload_n 1, 1) := by decide +kernel
theorem dX3_digitsAt_5 : decode cX3_digitsAt 5 = .ok (.caload, 1) := by decide +kernel
theorem dX3_digitsAt_6 : decode cX3_digitsAt 6 = .ok (.bipush 48, 2) := by decide +kernel
theorem dX3_digitsAt_8 : decode cX3_digitsAt 8 = .ok (.if_icmp .eq 17, 3) := by decide +kernel
theorem dX3_digitsAt_11 : decode cX3_digitsAt 11 = .ok (.aload_n 0, 1) := by decide +kernel
theorem dX3_digitsAt_12 : decode cX3_digitsAt 12 = .ok (.iload_n 1, 1) := by decide +kernel
theorem dX3_digitsAt_13 : decode cX3_digitsAt 13 = .ok (.iconst 1, 1) := by decide +kernel
theorem dX3_digitsAt_14 : decode cX3_digitsAt 14 = .ok (.iadd, 1) := by decide +kernel
theorem dX3_digitsAt_15 : decode cX3_digitsAt 15 = .ok (.invokevirtual 34, 3) := by decide +kernel
theorem dX3_digitsAt_18 : decode cX3_digitsAt 18 = .ok (.ifCond .eq 7, 3) := by decide +kernel
theorem dX3_digitsAt_21 : decode cX3_digitsAt 21 = .ok (.iconst 2, 1) := by decide +kernel
theorem dX3_digitsAt_22 : decode cX3_digitsAt 22 = .ok (.goto 4, 3) := by decide +kernel
theorem dX3_digitsAt_25 : decode cX3_digitsAt 25 = .ok (.iconst 1, 1) := by decide +kernel
theorem dX3_digitsAt_26 : decode cX3_digitsAt 26 = .ok (.ireturn, 1) := by decide +kernel
theorem dX3_keepNumber_0 : decode cX3_keepNumber 0 = .ok (.aload_n 0, 1) := by decide +kernel
theorem dX3_keepNumber_1 : decode cX3_keepNumber 1 = .ok (.getfield 9, 3) := by decide +kernel
theorem dX3_keepNumber_4 : decode cX3_keepNumber 4 = .ok (.iload_n 2, 1) := by decide +kernel
theorem dX3_keepNumber_5 : decode cX3_keepNumber 5 = .ok (.caload, 1) := by decide +kernel
theorem dX3_keepNumber_6 : decode cX3_keepNumber 6 = .ok (.bipush 48, 2) := by decide +kernel
theorem dX3_keepNumber_8 : decode cX3_keepNumber 8 = .ok (.isub, 1) := by decide +kernel
theorem dX3_keepNumber_9 : decode cX3_keepNumber 9 = .ok (.istore 4, 2) := by decide +kernel
theorem dX3_keepNumber_11 : decode cX3_keepNumber 11 = .ok (.iload_n 3, 1) := by decide +kernel
theorem dX3_keepNumber_12 : decode cX3_keepNumber 12 = .ok (.iconst 2, 1) := by decide +kernel
theorem dX3_keepNumber_13 : decode cX3_keepNumber 13 = .ok (.if_icmp .ne 22, 3) := by decide +kernel
theorem dX3_keepNumber_16 : decode cX3_keepNumber 16 = .ok (.bipush 10, 2) := by decide +kernel
theorem dX3_keepNumber_18 : decode cX3_keepNumber 18 = .ok (.iload 4, 2) := by decide +kernel
theorem dX3_keepNumber_20 : decode cX3_keepNumber 20 = .ok (.imul, 1) := by decide +kernel
theorem dX3_keepNumber_21 : decode cX3_keepNumber 21 = .ok (.aload_n 0, 1) := by decide +kernel
theorem dX3_keepNumber_22 : decode cX3_keepNumber 22 = .ok (.getfield 9, 3) := by decide +kernel
theorem dX3_keepNumber_25 : decode cX3_keepNumber 25 = .ok (.iload_n 2, 1) := by decide +kernel
theorem dX3_keepNumber_26 : decode cX3_keepNumber 26 = .ok (.iconst 1, 1) := by decide +kernel
theorem dX3_keepNumber_27 : decode cX3_keepNumber 27 = .ok (.iadd, 1) := by decide +kernel
theorem dX3_keepNumber_28 : decode cX3_keepNumber 28 = .ok (.caload, 1) := by decide +kernel
theorem dX3_keepNumber_29 : decode cX3_keepNumber 29 = .ok (.iadd, 1) := by decide +kernel
theorem dX3_keepNumber_30 : decode cX3_keepNumber 30 = .ok (.bipush 48, 2) := by decide +kernel
theorem dX3_keepNumber_32 : decode cX3_keepNumber 32 = .ok (.isub, 1) := by decide +kernel
theorem dX3_keepNumber_33 : decode cX3_keepNumber 33 = .ok (.istore 4, 2) := by decide +kernel
theorem dX3_keepNumber_35 : decode cX3_keepNumber 35 = .ok (.iload_n 1, 1) := by decide +kernel
theorem dX3_keepNumber_36 : decode cX3_keepNumber 36 = .ok (.ifCond .ne 12, 3) := by decide +kernel
theorem dX3_keepNumber_39 : decode cX3_keepNumber 39 = .ok (.aload_n 0, 1) := by decide +kernel
theorem dX3_keepNumber_40 : decode cX3_keepNumber 40 = .ok (.iload 4, 2) := by decide +kernel
theorem dX3_keepNumber_42 : decode cX3_keepNumber 42 = .ok (.putfield 66, 3) := by decide +kernel
theorem dX3_keepNumber_45 : decode cX3_keepNumber 45 = .ok (.goto 9, 3) := by decide +kernel
theorem dX3_keepNumber_48 : decode cX3_keepNumber 48 = .ok (.aload_n 0, 1) := by decide +kernel
theorem dX3_keepNumber_49 : decode cX3_keepNumber 49 = .ok (.iload 4, 2) := by decide +kernel
theorem dX3_keepNumber_51 : decode cX3_keepNumber 51 = .ok (.putfield 69, 3) := by decide +kernel
theorem dX3_keepNumber_54 : decode cX3_keepNumber 54 = .ok (.return_, 1) := by decide +kernel
theorem dX4_init_0 : decode cX4_init 0 = .ok (.aload_n 0, 1) := by decide +kernel
theorem dX4_init_1 : decode cX4_init 1 = .ok (.invokespecial 3, 3) := by decide +kernel
theorem dX4_init_4 : decode cX4_init 4 = .ok (.aload_n 0, 1) := by decide +kernel
theorem dX4_init_5 : decode cX4_init 5 = .ok (.iconst 4, 1) := by decide +kernel
theorem dX4_init_6 : decode cX4_init 6 = .ok (.newarray .int, 2) := by decide +kernel
theorem dX4_init_8 : decode cX4_init 8 = .ok (.putfield 9, 3) := by decide +kernel
theorem dX4_init_11 : decode cX4_init 11 = .ok (.return_, 1) := by decide +kernel
theorem dX4_begin_0 : decode cX4_begin 0 = .ok (.aload_n 0, 1) := by decide +kernel
theorem dX4_begin_1 : decode cX4_begin 1 = .ok (.iload_n 1, 1) := by decide +kernel
theorem dX4_begin_2 : decode cX4_begin 2 = .ok (.putfield 15, 3) := by decide +kernel
theorem dX4_begin_5 : decode cX4_begin 5 = .ok (.aload_n 0, 1) := by decide +kernel
theorem dX4_begin_6 : decode cX4_begin 6 = .ok (.dload_n 2, 1) := by decide +kernel
theorem dX4_begin_7 : decode cX4_begin 7 = .ok (.putfield 19, 3) := by decide +kernel
theorem dX4_begin_10 : decode cX4_begin 10 = .ok (.aload_n 0, 1) := by decide +kernel
theorem dX4_begin_11 : decode cX4_begin 11 = .ok (.dload_n 2, 1) := by decide +kernel
theorem dX4_begin_12 : decode cX4_begin 12 = .ok (.invokestatic 23, 3) := by decide +kernel
theorem dX4_begin_15 : decode cX4_begin 15 = .ok (.putfield 27, 3) := by decide +kernel
theorem dX4_begin_18 : decode cX4_begin 18 = .ok (.aload_n 0, 1) := by decide +kernel
theorem dX4_begin_19 : decode cX4_begin 19 = .ok (.iload 4, 2) := by decide +kernel
theorem dX4_begin_21 : decode cX4_begin 21 = .ok (.putfield 30, 3) := by decide +kernel
theorem dX4_begin_24 : decode cX4_begin 24 = .ok (.aload_n 0, 1) := by decide +kernel
theorem dX4_begin_25 : decode cX4_begin 25 = .ok (.iload 5, 2) := by decide +kernel
theorem dX4_begin_27 : decode cX4_begin 27 = .ok (.putfield 33, 3) := by decide +kernel
theorem dX4_begin_30 : decode cX4_begin 30 = .ok (.aload_n 0, 1) := by decide +kernel
theorem dX4_begin_31 : decode cX4_begin 31 = .ok (.iconst 0, 1) := by decide +kernel
theorem dX4_begin_32 : decode cX4_begin 32 = .ok (.putfield 36, 3) := by decide +kernel
theorem dX4_begin_35 : decode cX4_begin 35 = .ok (.aload_n 0, 1) := by decide +kernel
theorem dX4_begin_36 : decode cX4_begin 36 = .ok (.iconst 0, 1) := by decide +kernel
theorem dX4_begin_37 : decode cX4_begin 37 = .ok (.putfield 39, 3) := by decide +kernel
theorem dX4_begin_40 : decode cX4_begin 40 = .ok (.aload_n 0, 1) := by decide +kernel
theorem dX4_begin_41 : decode cX4_begin 41 = .ok (.iconst 0, 1) := by decide +kernel
theorem dX4_begin_42 : decode cX4_begin 42 = .ok (.putfield 42, 3) := by decide +kernel
theorem dX4_begin_45 : decode cX4_begin 45 = .ok (.aload_n 0, 1) := by decide +kernel
theorem dX4_begin_46 : decode cX4_begin 46 = .ok (.iconst 0, 1) := by decide +kernel
theorem dX4_begin_47 : decode cX4_begin 47 = .ok (.putfield 45, 3) := by decide +kernel
theorem dX4_begin_50 : decode cX4_begin 50 = .ok (.aload_n 0, 1) := by decide +kernel
theorem dX4_begin_51 : decode cX4_begin 51 = .ok (.iconst 0, 1) := by decide +kernel
theorem dX4_begin_52 : decode cX4_begin 52 = .ok (.putfield 48, 3) := by decide +kernel
theorem dX4_begin_55 : decode cX4_begin 55 = .ok (.return_, 1) := by decide +kernel
theorem dX4_copyFrom_0 : decode cX4_copyFrom 0 = .ok (.aload_n 1, 1) := by decide +kernel
theorem dX4_copyFrom_1 : decode cX4_copyFrom 1 = .ok (.getfield 9, 3) := by decide +kernel
theorem dX4_copyFrom_4 : decode cX4_copyFrom 4 = .ok (.iconst 0, 1) := by decide +kernel
theorem dX4_copyFrom_5 : decode cX4_copyFrom 5 = .ok (.aload_n 0, 1) := by decide +kernel
theorem dX4_copyFrom_6 : decode cX4_copyFrom 6 = .ok (.getfield 9, 3) := by decide +kernel
theorem dX4_copyFrom_9 : decode cX4_copyFrom 9 = .ok (.iconst 0, 1) := by decide +kernel
theorem dX4_copyFrom_10 : decode cX4_copyFrom 10 = .ok (.iconst 4, 1) := by decide +kernel
theorem dX4_copyFrom_11 : decode cX4_copyFrom 11 = .ok (.invokestatic 51, 3) := by decide +kernel
theorem dX4_copyFrom_14 : decode cX4_copyFrom 14 = .ok (.aload_n 0, 1) := by decide +kernel
theorem dX4_copyFrom_15 : decode cX4_copyFrom 15 = .ok (.aload_n 1, 1) := by decide +kernel
theorem dX4_copyFrom_16 : decode cX4_copyFrom 16 = .ok (.getfield 15, 3) := by decide +kernel
theorem dX4_copyFrom_19 : decode cX4_copyFrom 19 = .ok (.putfield 15, 3) := by decide +kernel
theorem dX4_copyFrom_22 : decode cX4_copyFrom 22 = .ok (.aload_n 0, 1) := by decide +kernel
theorem dX4_copyFrom_23 : decode cX4_copyFrom 23 = .ok (.aload_n 1, 1) := by decide +kernel
theorem dX4_copyFrom_24 : decode cX4_copyFrom 24 = .ok (.getfield 19, 3) := by decide +kernel
theorem dX4_copyFrom_27 : decode cX4_copyFrom 27 = .ok (.putfield 19, 3) := by decide +kernel
theorem dX4_copyFrom_30 : decode cX4_copyFrom 30 = .ok (.aload_n 0, 1) := by decide +kernel
theorem dX4_copyFrom_31 : decode cX4_copyFrom 31 = .ok (.aload_n 1, 1) := by decide +kernel
theorem dX4_copyFrom_32 : decode cX4_copyFrom 32 = .ok (.getfield 27, 3) := by decide +kernel
theorem dX4_copyFrom_35 : decode cX4_copyFrom 35 = .ok (.putfield 27, 3) := by decide +kernel
theorem dX4_copyFrom_38 : decode cX4_copyFrom 38 = .ok (.aload_n 0, 1) := by decide +kernel
theorem dX4_copyFrom_39 : decode cX4_copyFrom 39 = .ok (.aload_n 1, 1) := by decide +kernel
theorem dX4_copyFrom_40 : decode cX4_copyFrom 40 = .ok (.getfield 30, 3) := by decide +kernel
theorem dX4_copyFrom_43 : decode cX4_copyFrom 43 = .ok (.putfield 30, 3) := by decide +kernel
theorem dX4_copyFrom_46 : decode cX4_copyFrom 46 = .ok (.aload_n 0, 1) := by decide +kernel
theorem dX4_copyFrom_47 : decode cX4_copyFrom 47 = .ok (.aload_n 1, 1) := by decide +kernel
theorem dX4_copyFrom_48 : decode cX4_copyFrom 48 = .ok (.getfield 33, 3) := by decide +kernel
theorem dX4_copyFrom_51 : decode cX4_copyFrom 51 = .ok (.putfield 33, 3) := by decide +kernel
theorem dX4_copyFrom_54 : decode cX4_copyFrom 54 = .ok (.aload_n 0, 1) := by decide +kernel
theorem dX4_copyFrom_55 : decode cX4_copyFrom 55 = .ok (.aload_n 1, 1) := by decide +kernel
theorem dX4_copyFrom_56 : decode cX4_copyFrom 56 = .ok (.getfield 36, 3) := by decide +kernel
theorem dX4_copyFrom_59 : decode cX4_copyFrom 59 = .ok (.putfield 36, 3) := by decide +kernel
theorem dX4_copyFrom_62 : decode cX4_copyFrom 62 = .ok (.aload_n 0, 1) := by decide +kernel
theorem dX4_copyFrom_63 : decode cX4_copyFrom 63 = .ok (.aload_n 1, 1) := by decide +kernel
theorem dX4_copyFrom_64 : decode cX4_copyFrom 64 = .ok (.getfield 39, 3) := by decide +kernel
theorem dX4_copyFrom_67 : decode cX4_copyFrom 67 = .ok (.putfield 39, 3) := by decide +kernel
theorem dX4_copyFrom_70 : decode cX4_copyFrom 70 = .ok (.aload_n 0, 1) := by decide +kernel
theorem dX4_copyFrom_71 : decode cX4_copyFrom 71 = .ok (.aload_n 1, 1) := by decide +kernel
theorem dX4_copyFrom_72 : decode cX4_copyFrom 72 = .ok (.getfield 42, 3) := by decide +kernel
theorem dX4_copyFrom_75 : decode cX4_copyFrom 75 = .ok (.putfield 42, 3) := by decide +kernel
theorem dX4_copyFrom_78 : decode cX4_copyFrom 78 = .ok (.aload_n 0, 1) := by decide +kernel
theorem dX4_copyFrom_79 : decode cX4_copyFrom 79 = .ok (.aload_n 1, 1) := by decide +kernel
theorem dX4_copyFrom_80 : decode cX4_copyFrom 80 = .ok (.getfield 45, 3) := by decide +kernel
theorem dX4_copyFrom_83 : decode cX4_copyFrom 83 = .ok (.putfield 45, 3) := by decide +kernel
theorem dX4_copyFrom_86 : decode cX4_copyFrom 86 = .ok (.aload_n 0, 1) := by decide +kernel
theorem dX4_copyFrom_87 : decode cX4_copyFrom 87 = .ok (.aload_n 1, 1) := by decide +kernel
theorem dX4_copyFrom_88 : decode cX4_copyFrom 88 = .ok (.getfield 48, 3) := by decide +kernel
theorem dX4_copyFrom_91 : decode cX4_copyFrom 91 = .ok (.putfield 48, 3) := by decide +kernel
theorem dX4_copyFrom_94 : decode cX4_copyFrom 94 = .ok (.return_, 1) := by decide +kernel
theorem dX4_baseOf_0 : decode cX4_baseOf 0 = .ok (.dload_n 0, 1) := by decide +kernel
theorem dX4_baseOf_1 : decode cX4_baseOf 1 = .ok (.ldc2_w 57, 3) := by decide +kernel
theorem dX4_baseOf_4 : decode cX4_baseOf 4 = .ok (.dcmp .g, 1) := by decide +kernel
theorem dX4_baseOf_5 : decode cX4_baseOf 5 = .ok (.ifCond .ge 6, 3) := by decide +kernel
theorem dX4_baseOf_8 : decode cX4_baseOf 8 = .ok (.bipush 7, 2) := by decide +kernel
theorem dX4_baseOf_10 : decode cX4_baseOf 10 = .ok (.ireturn, 1) := by decide +kernel
theorem dX4_baseOf_11 : decode cX4_baseOf 11 = .ok (.dload_n 0, 1) := by decide +kernel
theorem dX4_baseOf_12 : decode cX4_baseOf 12 = .ok (.ldc2_w 59, 3) := by decide +kernel
theorem dX4_baseOf_15 : decode cX4_baseOf 15 = .ok (.dcmp .g, 1) := by decide +kernel
theorem dX4_baseOf_16 : decode cX4_baseOf 16 = .ok (.ifCond .ge 5, 3) := by decide +kernel
theorem dX4_baseOf_19 : decode cX4_baseOf 19 = .ok (.iconst 5, 1) := by decide +kernel
theorem dX4_baseOf_20 : decode cX4_baseOf 20 = .ok (.ireturn, 1) := by decide +kernel
theorem dX4_baseOf_21 : decode cX4_baseOf 21 = .ok (.dload_n 0, 1) := by decide +kernel
theorem dX4_baseOf_22 : decode cX4_baseOf 22 = .ok (.ldc2_w 61, 3) := by decide +kernel
theorem dX4_baseOf_25 : decode cX4_baseOf 25 = .ok (.dcmp .g, 1) := by decide +kernel
theorem dX4_baseOf_26 : decode cX4_baseOf 26 = .ok (.ifCond .ge 7, 3) := by decide +kernel
theorem dX4_baseOf_29 : decode cX4_baseOf 29 = .ok (.iconst 3, 1) := by decide +kernel
theorem dX4_baseOf_30 : decode cX4_baseOf 30 = .ok (.goto 4, 3) := by decide +kernel
theorem dX4_baseOf_33 : decode cX4_baseOf 33 = .ok (.iconst 1, 1) := by decide +kernel
theorem dX4_baseOf_34 : decode cX4_baseOf 34 = .ok (.ireturn, 1) := by decide +kernel
theorem dX4_hasInRow_0 : decode cX4_hasInRow 0 = .ok (.iconst 0, 1) := by decide +kernel
theorem dX4_hasInRow_1 : decode cX4_hasInRow 1 = .ok (.istore_n 2, 1) := by decide +kernel
theorem dX4_hasInRow_2 : decode cX4_hasInRow 2 = .ok (.iload_n 2, 1) := by decide +kernel
theorem dX4_hasInRow_3 : decode cX4_hasInRow 3 = .ok (.aload_n 0, 1) := by decide +kernel
theorem dX4_hasInRow_4 : decode cX4_hasInRow 4 = .ok (.getfield 39, 3) := by decide +kernel
theorem dX4_hasInRow_7 : decode cX4_hasInRow 7 = .ok (.if_icmp .ge 21, 3) := by decide +kernel
theorem dX4_hasInRow_10 : decode cX4_hasInRow 10 = .ok (.aload_n 0, 1) := by decide +kernel
theorem dX4_hasInRow_11 : decode cX4_hasInRow 11 = .ok (.getfield 9, 3) := by decide +kernel
theorem dX4_hasInRow_14 : decode cX4_hasInRow 14 = .ok (.iload_n 2, 1) := by decide +kernel
theorem dX4_hasInRow_15 : decode cX4_hasInRow 15 = .ok (.iaload, 1) := by decide +kernel
theorem dX4_hasInRow_16 : decode cX4_hasInRow 16 = .ok (.iload_n 1, 1) := by decide +kernel
theorem dX4_hasInRow_17 : decode cX4_hasInRow 17 = .ok (.if_icmp .ne 5, 3) := by decide +kernel
theorem dX4_hasInRow_20 : decode cX4_hasInRow 20 = .ok (.iconst 1, 1) := by decide +kernel
theorem dX4_hasInRow_21 : decode cX4_hasInRow 21 = .ok (.ireturn, 1) := by decide +kernel
theorem dX4_hasInRow_22 : decode cX4_hasInRow 22 = .ok (.iinc 2 1, 3) := by decide +kernel
theorem dX4_hasInRow_25 : decode cX4_hasInRow 25 = .ok (.goto (-23), 3) := by decide +kernel
theorem dX4_hasInRow_28 : decode cX4_hasInRow 28 = .ok (.iconst 0, 1) := by decide +kernel
theorem dX4_hasInRow_29 : decode cX4_hasInRow 29 = .ok (.ireturn, 1) := by decide +kernel
theorem dX4_addToRow_0 : decode cX4_addToRow 0 = .ok (.aload_n 0, 1) := by decide +kernel
theorem dX4_addToRow_1 : decode cX4_addToRow 1 = .ok (.getfield 39, 3) := by decide +kernel
theorem dX4_addToRow_4 : decode cX4_addToRow 4 = .ok (.iconst 4, 1) := by decide +kernel
theorem dX4_addToRow_5 : decode cX4_addToRow 5 = .ok (.if_icmp .ge 23, 3) := by decide +kernel
theorem dX4_addToRow_8 : decode cX4_addToRow 8 = .ok (.aload_n 0, 1) := by decide +kernel
theorem dX4_addToRow_9 : decode cX4_addToRow 9 = .ok (.getfield 9, 3) := by decide +kernel
theorem dX4_addToRow_12 : decode cX4_addToRow 12 = .ok (.aload_n 0, 1) := by decide +kernel
theorem dX4_addToRow_13 : decode cX4_addToRow 13 = .ok (.getfield 39, 3) := by decide +kernel
theorem dX4_addToRow_16 : decode cX4_addToRow 16 = .ok (.iload_n 1, 1) := by decide +kernel
theorem dX4_addToRow_17 : decode cX4_addToRow 17 = .ok (.iastore, 1) := by decide +kernel
theorem dX4_addToRow_18 : decode cX4_addToRow 18 = .ok (.aload_n 0, 1) := by decide +kernel
theorem dX4_addToRow_19 : decode cX4_addToRow 19 = .ok (.dup, 1) := by decide +kernel
theorem dX4_addToRow_20 : decode cX4_addToRow 20 = .ok (.getfield 39, 3) := by decide +kernel
theorem dX4_addToRow_23 : decode cX4_addToRow 23 = .ok (.iconst 1, 1) := by decide +kernel
theorem dX4_addToRow_24 : decode cX4_addToRow 24 = .ok (.iadd, 1) := by decide +kernel
theorem dX4_addToRow_25 : decode cX4_addToRow 25 = .ok (.putfield 39, 3) := by decide +kernel
theorem dX4_addToRow_28 : decode cX4_addToRow 28 = .ok (.return_, 1) := by decide +kernel
theorem dX4_takeFromRow_0 : decode cX4_takeFromRow 0 = .ok (.iconst 0, 1) := by decide +kernel
theorem dX4_takeFromRow_1 : decode cX4_takeFromRow 1 = .ok (.istore_n 2, 1) := by decide +kernel
theorem dX4_takeFromRow_2 : decode cX4_takeFromRow 2 = .ok (.iconst 0, 1) := by decide +kernel
theorem dX4_takeFromRow_3 : decode cX4_takeFromRow 3 = .ok (.istore_n 3, 1) := by decide +kernel
theorem dX4_takeFromRow_4 : decode cX4_takeFromRow 4 = .ok (.iload_n 3, 1) := by decide +kernel
theorem dX4_takeFromRow_5 : decode cX4_takeFromRow 5 = .ok (.aload_n 0, 1) := by decide +kernel
theorem dX4_takeFromRow_6 : decode cX4_takeFromRow 6 = .ok (.getfield 39, 3) := by decide +kernel
theorem dX4_takeFromRow_9 : decode cX4_takeFromRow 9 = .ok (.if_icmp .ge 34, 3) := by decide +kernel
theorem dX4_takeFromRow_12 : decode cX4_takeFromRow 12 = .ok (.aload_n 0, 1) := by decide +kernel
theorem dX4_takeFromRow_13 : decode cX4_takeFromRow 13 = .ok (.getfield 9, 3) := by decide +kernel
theorem dX4_takeFromRow_16 : decode cX4_takeFromRow 16 = .ok (.iload_n 3, 1) := by decide +kernel
theorem dX4_takeFromRow_17 : decode cX4_takeFromRow 17 = .ok (.iaload, 1) := by decide +kernel
theorem dX4_takeFromRow_18 : decode cX4_takeFromRow 18 = .ok (.iload_n 1, 1) := by decide +kernel
theorem dX4_takeFromRow_19 : decode cX4_takeFromRow 19 = .ok (.if_icmp .eq 18, 3) := by decide +kernel
theorem dX4_takeFromRow_22 : decode cX4_takeFromRow 22 = .ok (.aload_n 0, 1) := by decide +kernel
theorem dX4_takeFromRow_23 : decode cX4_takeFromRow 23 = .ok (.getfield 9, 3) := by decide +kernel
theorem dX4_takeFromRow_26 : decode cX4_takeFromRow 26 = .ok (.iload_n 2, 1) := by decide +kernel
theorem dX4_takeFromRow_27 : decode cX4_takeFromRow 27 = .ok (.aload_n 0, 1) := by decide +kernel
theorem dX4_takeFromRow_28 : decode cX4_takeFromRow 28 = .ok (.getfield 9, 3) := by decide +kernel
theorem dX4_takeFromRow_31 : decode cX4_takeFromRow 31 = .ok (.iload_n 3, 1) := by decide +kernel
theorem dX4_takeFromRow_32 : decode cX4_takeFromRow 32 = .ok (.iaload, 1) := by decide +kernel
theorem dX4_takeFromRow_33 : decode cX4_takeFromRow 33 = .ok (.iastore, 1) := by decide +kernel
theorem dX4_takeFromRow_34 : decode cX4_takeFromRow 34 = .ok (.iinc 2 1, 3) := by decide +kernel
theorem dX4_takeFromRow_37 : decode cX4_takeFromRow 37 = .ok (.iinc 3 1, 3) := by decide +kernel
theorem dX4_takeFromRow_40 : decode cX4_takeFromRow 40 = .ok (.goto (-36), 3) := by decide +kernel
theorem dX4_takeFromRow_43 : decode cX4_takeFromRow 43 = .ok (.aload_n 0, 1) := by decide +kernel
theorem dX4_takeFromRow_44 : decode cX4_takeFromRow 44 = .ok (.iload_n 2, 1) := by decide +kernel
theorem dX4_takeFromRow_45 : decode cX4_takeFromRow 45 = .ok (.putfield 39, 3) := by decide +kernel
theorem dX4_takeFromRow_48 : decode cX4_takeFromRow 48 = .ok (.return_, 1) := by decide +kernel
theorem dX4_refundFor_0 : decode cX4_refundFor 0 = .ok (.aload_n 0, 1) := by decide +kernel
theorem dX4_refundFor_1 : decode cX4_refundFor 1 = .ok (.getfield 36, 3) := by decide +kernel
theorem dX4_refundFor_4 : decode cX4_refundFor 4 = .ok (.ifCond .gt 5, 3) := by decide +kernel
theorem dX4_refundFor_7 : decode cX4_refundFor 7 = .ok (.iconst 0, 1) := by decide +kernel
theorem dX4_refundFor_8 : decode cX4_refundFor 8 = .ok (.ireturn, 1) := by decide +kernel
theorem dX4_refundFor_9 : decode cX4_refundFor 9 = .ok (.aload_n 0, 1) := by decide +kernel
theorem dX4_refundFor_10 : decode cX4_refundFor 10 = .ok (.getfield 42, 3) := by decide +kernel
theorem dX4_refundFor_13 : decode cX4_refundFor 13 = .ok (.i2d, 1) := by decide +kernel
theorem dX4_refundFor_14 : decode cX4_refundFor 14 = .ok (.aload_n 0, 1) := by decide +kernel
theorem dX4_refundFor_15 : decode cX4_refundFor 15 = .ok (.getfield 36, 3) := by decide +kernel
theorem dX4_refundFor_18 : decode cX4_refundFor 18 = .ok (.i2d, 1) := by decide +kernel
theorem dX4_refundFor_19 : decode cX4_refundFor 19 = .ok (.ddiv, 1) := by decide +kernel
theorem dX4_refundFor_20 : decode cX4_refundFor 20 = .ok (.iload_n 1, 1) := by decide +kernel
theorem dX4_refundFor_21 : decode cX4_refundFor 21 = .ok (.i2d, 1) := by decide +kernel
theorem dX4_refundFor_22 : decode cX4_refundFor 22 = .ok (.dmul, 1) := by decide +kernel
theorem dX4_refundFor_23 : decode cX4_refundFor 23 = .ok (.aload_n 0, 1) := by decide +kernel
theorem dX4_refundFor_24 : decode cX4_refundFor 24 = .ok (.getfield 15, 3) := by decide +kernel
theorem dX4_refundFor_27 : decode cX4_refundFor 27 = .ok (.iload_n 2, 1) := by decide +kernel
theorem dX4_refundFor_28 : decode cX4_refundFor 28 = .ok (.isub, 1) := by decide +kernel
theorem dX4_refundFor_29 : decode cX4_refundFor 29 = .ok (.invokestatic 63, 3) := by decide +kernel
theorem dX4_refundFor_32 : decode cX4_refundFor 32 = .ok (.dmul, 1) := by decide +kernel
theorem dX4_refundFor_33 : decode cX4_refundFor 33 = .ok (.d2i, 1) := by decide +kernel
theorem dX4_refundFor_34 : decode cX4_refundFor 34 = .ok (.ireturn, 1) := by decide +kernel
theorem dX4_shareAt_0 : decode cX4_shareAt 0 = .ok (.iload_n 0, 1) := by decide +kernel
theorem dX4_shareAt_1 : decode cX4_shareAt 1 = .ok (.bipush 14, 2) := by decide +kernel
theorem dX4_shareAt_3 : decode cX4_shareAt 3 = .ok (.if_icmp .lt 5, 3) := by decide +kernel
theorem dX4_shareAt_6 : decode cX4_shareAt 6 = .ok (.dconst 1, 1) := by decide +kernel
theorem dX4_shareAt_7 : decode cX4_shareAt 7 = .ok (.dreturn, 1) := by decide +kernel
theorem dX4_shareAt_8 : decode cX4_shareAt 8 = .ok (.iload_n 0, 1) := by decide +kernel
theorem dX4_shareAt_9 : decode cX4_shareAt 9 = .ok (.bipush 7, 2) := by decide +kernel
theorem dX4_shareAt_11 : decode cX4_shareAt 11 = .ok (.if_icmp .lt 7, 3) := by decide +kernel
theorem dX4_shareAt_14 : decode cX4_shareAt 14 = .ok (.ldc2_w 67, 3) := by decide +kernel
theorem dX4_shareAt_17 : decode cX4_shareAt 17 = .ok (.dreturn, 1) := by decide +kernel
theorem dX4_shareAt_18 : decode cX4_shareAt 18 = .ok (.iload_n 0, 1) := by decide +kernel
theorem dX4_shareAt_19 : decode cX4_shareAt 19 = .ok (.iconst 3, 1) := by decide +kernel
theorem dX4_shareAt_20 : decode cX4_shareAt 20 = .ok (.if_icmp .lt 9, 3) := by decide +kernel
theorem dX4_shareAt_23 : decode cX4_shareAt 23 = .ok (.ldc2_w 69, 3) := by decide +kernel
theorem dX4_shareAt_26 : decode cX4_shareAt 26 = .ok (.goto 4, 3) := by decide +kernel
theorem dX4_shareAt_29 : decode cX4_shareAt 29 = .ok (.dconst 0, 1) := by decide +kernel
theorem dX4_shareAt_30 : decode cX4_shareAt 30 = .ok (.dreturn, 1) := by decide +kernel
theorem dX4_fitsInto_0 : decode cX4_fitsInto 0 = .ok (.aload_n 0, 1) := by decide +kernel
theorem dX4_fitsInto_1 : decode cX4_fitsInto 1 = .ok (.getfield 45, 3) := by decide +kernel
theorem dX4_fitsInto_4 : decode cX4_fitsInto 4 = .ok (.ifCond .ne 65, 3) := by decide +kernel
theorem dX4_fitsInto_7 : decode cX4_fitsInto 7 = .ok (.aload_n 1, 1) := by decide +kernel
theorem dX4_fitsInto_8 : decode cX4_fitsInto 8 = .ok (.getfield 45, 3) := by decide +kernel
theorem dX4_fitsInto_11 : decode cX4_fitsInto 11 = .ok (.ifCond .ne 58, 3) := by decide +kernel
theorem dX4_fitsInto_14 : decode cX4_fitsInto 14 = .ok (.aload_n 0, 1) := by decide +kernel
theorem dX4_fitsInto_15 : decode cX4_fitsInto 15 = .ok (.getfield 15, 3) := by decide +kernel
theorem dX4_fitsInto_18 : decode cX4_fitsInto 18 = .ok (.aload_n 1, 1) := by decide +kernel
theorem dX4_fitsInto_19 : decode cX4_fitsInto 19 = .ok (.getfield 15, 3) := by decide +kernel
theorem dX4_fitsInto_22 : decode cX4_fitsInto 22 = .ok (.if_icmp .ne 47, 3) := by decide +kernel
theorem dX4_fitsInto_25 : decode cX4_fitsInto 25 = .ok (.aload_n 1, 1) := by decide +kernel
theorem dX4_fitsInto_26 : decode cX4_fitsInto 26 = .ok (.getfield 19, 3) := by decide +kernel
theorem dX4_fitsInto_29 : decode cX4_fitsInto 29 = .ok (.aload_n 0, 1) := by decide +kernel
theorem dX4_fitsInto_30 : decode cX4_fitsInto 30 = .ok (.getfield 19, 3) := by decide +kernel
theorem dX4_fitsInto_33 : decode cX4_fitsInto 33 = .ok (.dcmp .g, 1) := by decide +kernel
theorem dX4_fitsInto_34 : decode cX4_fitsInto 34 = .ok (.ifCond .gt 35, 3) := by decide +kernel
theorem dX4_fitsInto_37 : decode cX4_fitsInto 37 = .ok (.aload_n 1, 1) := by decide +kernel
theorem dX4_fitsInto_38 : decode cX4_fitsInto 38 = .ok (.getfield 33, 3) := by decide +kernel
theorem dX4_fitsInto_41 : decode cX4_fitsInto 41 = .ok (.aload_n 0, 1) := by decide +kernel
theorem dX4_fitsInto_42 : decode cX4_fitsInto 42 = .ok (.getfield 33, 3) := by decide +kernel
theorem dX4_fitsInto_45 : decode cX4_fitsInto 45 = .ok (.iconst (-1), 1) := by decide +kernel
theorem dX4_fitsInto_46 : decode cX4_fitsInto 46 = .ok (.ixor, 1) := by decide +kernel
theorem dX4_fitsInto_47 : decode cX4_fitsInto 47 = .ok (.iand, 1) := by decide +kernel
theorem dX4_fitsInto_48 : decode cX4_fitsInto 48 = .ok (.ifCond .ne 21, 3) := by decide +kernel
theorem dX4_fitsInto_51 : decode cX4_fitsInto 51 = .ok (.aload_n 0, 1) := by decide +kernel
theorem dX4_fitsInto_52 : decode cX4_fitsInto 52 = .ok (.getfield 36, 3) := by decide +kernel
theorem dX4_fitsInto_55 : decode cX4_fitsInto 55 = .ok (.aload_n 1, 1) := by decide +kernel
theorem dX4_fitsInto_56 : decode cX4_fitsInto 56 = .ok (.getfield 36, 3) := by decide +kernel
theorem dX4_fitsInto_59 : decode cX4_fitsInto 59 = .ok (.iadd, 1) := by decide +kernel
theorem dX4_fitsInto_60 : decode cX4_fitsInto 60 = .ok (.bipush 12, 2) := by decide +kernel
theorem dX4_fitsInto_62 : decode cX4_fitsInto 62 = .ok (.if_icmp .gt 7, 3) := by decide +kernel
theorem dX4_fitsInto_65 : decode cX4_fitsInto 65 = .ok (.iconst 1, 1) := by decide +kernel
theorem dX4_fitsInto_66 : decode cX4_fitsInto 66 = .ok (.goto 4, 3) := by decide +kernel
theorem dX4_fitsInto_69 : decode cX4_fitsInto 69 = .ok (.iconst 0, 1) := by decide +kernel
theorem dX4_fitsInto_70 : decode cX4_fitsInto 70 = .ok (.ireturn, 1) := by decide +kernel
theorem dX4_moveInto_0 : decode cX4_moveInto 0 = .ok (.aload_n 1, 1) := by decide +kernel
theorem dX4_moveInto_1 : decode cX4_moveInto 1 = .ok (.dup, 1) := by decide +kernel
theorem dX4_moveInto_2 : decode cX4_moveInto 2 = .ok (.getfield 36, 3) := by decide +kernel
theorem dX4_moveInto_5 : decode cX4_moveInto 5 = .ok (.aload_n 0, 1) := by decide +kernel
theorem dX4_moveInto_6 : decode cX4_moveInto 6 = .ok (.getfield 36, 3) := by decide +kernel
theorem dX4_moveInto_9 : decode cX4_moveInto 9 = .ok (.iadd, 1) := by decide +kernel
theorem dX4_moveInto_10 : decode cX4_moveInto 10 = .ok (.putfield 36, 3) := by decide +kernel
theorem dX4_moveInto_13 : decode cX4_moveInto 13 = .ok (.aload_n 1, 1) := by decide +kernel
theorem dX4_moveInto_14 : decode cX4_moveInto 14 = .ok (.dup, 1) := by decide +kernel
theorem dX4_moveInto_15 : decode cX4_moveInto 15 = .ok (.getfield 42, 3) := by decide +kernel
theorem dX4_moveInto_18 : decode cX4_moveInto 18 = .ok (.aload_n 0, 1) := by decide +kernel
theorem dX4_moveInto_19 : decode cX4_moveInto 19 = .ok (.getfield 42, 3) := by decide +kernel
theorem dX4_moveInto_22 : decode cX4_moveInto 22 = .ok (.iadd, 1) := by decide +kernel
theorem dX4_moveInto_23 : decode cX4_moveInto 23 = .ok (.putfield 42, 3) := by decide +kernel
theorem dX4_moveInto_26 : decode cX4_moveInto 26 = .ok (.iconst 0, 1) := by decide +kernel
theorem dX4_moveInto_27 : decode cX4_moveInto 27 = .ok (.istore_n 2, 1) := by decide +kernel
theorem dX4_moveInto_28 : decode cX4_moveInto 28 = .ok (.iload_n 2, 1) := by decide +kernel
theorem dX4_moveInto_29 : decode cX4_moveInto 29 = .ok (.aload_n 0, 1) := by decide +kernel
theorem dX4_moveInto_30 : decode cX4_moveInto 30 = .ok (.getfield 39, 3) := by decide +kernel
theorem dX4_moveInto_33 : decode cX4_moveInto 33 = .ok (.if_icmp .ge 19, 3) := by decide +kernel
theorem dX4_moveInto_36 : decode cX4_moveInto 36 = .ok (.aload_n 1, 1) := by decide +kernel
theorem dX4_moveInto_37 : decode cX4_moveInto 37 = .ok (.aload_n 0, 1) := by decide +kernel
theorem dX4_moveInto_38 : decode cX4_moveInto 38 = .ok (.getfield 9, 3) := by decide +kernel
theorem dX4_moveInto_41 : decode cX4_moveInto 41 = .ok (.iload_n 2, 1) := by decide +kernel
theorem dX4_moveInto_42 : decode cX4_moveInto 42 = .ok (.iaload, 1) := by decide +kernel
theorem dX4_moveInto_43 : decode cX4_moveInto 43 = .ok (.invokevirtual 71, 3) := by decide +kernel
theorem dX4_moveInto_46 : decode cX4_moveInto 46 = .ok (.iinc 2 1, 3) := by decide +kernel
theorem dX4_moveInto_49 : decode cX4_moveInto 49 = .ok (.goto (-21), 3) := by decide +kernel
theorem dX4_moveInto_52 : decode cX4_moveInto 52 = .ok (.aload_n 0, 1) := by decide +kernel
theorem dX4_moveInto_53 : decode cX4_moveInto 53 = .ok (.iconst 0, 1) := by decide +kernel
theorem dX4_moveInto_54 : decode cX4_moveInto 54 = .ok (.putfield 36, 3) := by decide +kernel
theorem dX4_moveInto_57 : decode cX4_moveInto 57 = .ok (.aload_n 0, 1) := by decide +kernel
theorem dX4_moveInto_58 : decode cX4_moveInto 58 = .ok (.iconst 0, 1) := by decide +kernel
theorem dX4_moveInto_59 : decode cX4_moveInto 59 = .ok (.putfield 39, 3) := by decide +kernel
theorem dX4_moveInto_62 : decode cX4_moveInto 62 = .ok (.aload_n 0, 1) := by decide +kernel
theorem dX4_moveInto_63 : decode cX4_moveInto 63 = .ok (.iconst 0, 1) := by decide +kernel
theorem dX4_moveInto_64 : decode cX4_moveInto 64 = .ok (.putfield 42, 3) := by decide +kernel
theorem dX4_moveInto_67 : decode cX4_moveInto 67 = .ok (.aload_n 0, 1) := by decide +kernel
theorem dX4_moveInto_68 : decode cX4_moveInto 68 = .ok (.iconst 3, 1) := by decide +kernel
theorem dX4_moveInto_69 : decode cX4_moveInto 69 = .ok (.putfield 45, 3) := by decide +kernel
theorem dX4_moveInto_72 : decode cX4_moveInto 72 = .ok (.return_, 1) := by decide +kernel
theorem dX5_init_0 : decode cX5_init 0 = .ok (.aload_n 0, 1) := by decide +kernel
theorem dX5_init_1 : decode cX5_init 1 = .ok (.invokespecial 1, 3) := by decide +kernel
theorem dX5_init_4 : decode cX5_init 4 = .ok (.aload_n 0, 1) := by decide +kernel
theorem dX5_init_5 : decode cX5_init 5 = .ok (.new 7, 3) := by decide +kernel
theorem dX5_init_8 : decode cX5_init 8 = .ok (.dup, 1) := by decide +kernel
theorem dX5_init_9 : decode cX5_init 9 = .ok (.invokespecial 9, 3) := by decide +kernel
theorem dX5_init_12 : decode cX5_init 12 = .ok (.putfield 10, 3) := by decide +kernel
theorem dX5_init_15 : decode cX5_init 15 = .ok (.aload_n 0, 1) := by decide +kernel
theorem dX5_init_16 : decode cX5_init 16 = .ok (.new 7, 3) := by decide +kernel
theorem dX5_init_19 : decode cX5_init 19 = .ok (.dup, 1) := by decide +kernel
theorem dX5_init_20 : decode cX5_init 20 = .ok (.invokespecial 9, 3) := by decide +kernel
theorem dX5_init_23 : decode cX5_init 23 = .ok (.putfield 16, 3) := by decide +kernel
theorem dX5_init_26 : decode cX5_init 26 = .ok (.aload_n 0, 1) := by decide +kernel
theorem dX5_init_27 : decode cX5_init 27 = .ok (.new 19, 3) := by decide +kernel
theorem dX5_init_30 : decode cX5_init 30 = .ok (.dup, 1) := by decide +kernel
theorem dX5_init_31 : decode cX5_init 31 = .ok (.invokespecial 21, 3) := by decide +kernel
theorem dX5_init_34 : decode cX5_init 34 = .ok (.putfield 22, 3) := by decide +kernel
theorem dX5_init_37 : decode cX5_init 37 = .ok (.aload_n 0, 1) := by decide +kernel
theorem dX5_init_38 : decode cX5_init 38 = .ok (.new 26, 3) := by decide +kernel
theorem dX5_init_41 : decode cX5_init 41 = .ok (.dup, 1) := by decide +kernel
theorem dX5_init_42 : decode cX5_init 42 = .ok (.invokespecial 28, 3) := by decide +kernel
theorem dX5_init_45 : decode cX5_init 45 = .ok (.putfield 29, 3) := by decide +kernel
theorem dX5_init_48 : decode cX5_init 48 = .ok (.return_, 1) := by decide +kernel
theorem dX5_addGuide_0 : decode cX5_addGuide 0 = .ok (.iload_n 1, 1) := by decide +kernel
theorem dX5_addGuide_1 : decode cX5_addGuide 1 = .ok (.invokestatic 33, 3) := by decide +kernel
theorem dX5_addGuide_4 : decode cX5_addGuide 4 = .ok (.ifCond .eq 10, 3) := by decide +kernel
theorem dX5_addGuide_7 : decode cX5_addGuide 7 = .ok (.iload_n 2, 1) := by decide +kernel
theorem dX5_addGuide_8 : decode cX5_addGuide 8 = .ok (.invokestatic 37, 3) := by decide +kernel
theorem dX5_addGuide_11 : decode cX5_addGuide 11 = .ok (.ifCond .ne 6, 3) := by decide +kernel
theorem dX5_addGuide_14 : decode cX5_addGuide 14 = .ok (.bipush (-2), 2) := by decide +kernel
theorem dX5_addGuide_16 : decode cX5_addGuide 16 = .ok (.ireturn, 1) := by decide +kernel
theorem dX5_addGuide_17 : decode cX5_addGuide 17 = .ok (.aload_n 0, 1) := by decide +kernel
theorem dX5_addGuide_18 : decode cX5_addGuide 18 = .ok (.getfield 10, 3) := by decide +kernel
theorem dX5_addGuide_21 : decode cX5_addGuide 21 = .ok (.getfield 40, 3) := by decide +kernel
theorem dX5_addGuide_24 : decode cX5_addGuide 24 = .ok (.bipush 8, 2) := by decide +kernel
theorem dX5_addGuide_26 : decode cX5_addGuide 26 = .ok (.if_icmp .lt 6, 3) := by decide +kernel
theorem dX5_addGuide_29 : decode cX5_addGuide 29 = .ok (.bipush (-3), 2) := by decide +kernel
theorem dX5_addGuide_31 : decode cX5_addGuide 31 = .ok (.ireturn, 1) := by decide +kernel
theorem dX5_addGuide_32 : decode cX5_addGuide 32 = .ok (.aload_n 0, 1) := by decide +kernel
theorem dX5_addGuide_33 : decode cX5_addGuide 33 = .ok (.getfield 22, 3) := by decide +kernel
theorem dX5_addGuide_36 : decode cX5_addGuide 36 = .ok (.aload_n 0, 1) := by decide +kernel
theorem dX5_addGuide_37 : decode cX5_addGuide 37 = .ok (.getfield 10, 3) := by decide +kernel
theorem dX5_addGuide_40 : decode cX5_addGuide 40 = .ok (.invokevirtual 44, 3) := by decide +kernel
theorem dX5_addGuide_43 : decode cX5_addGuide 43 = .ok (.aload_n 0, 1) := by decide +kernel
theorem dX5_addGuide_44 : decode cX5_addGuide 44 = .ok (.getfield 10, 3) := by decide +kernel
theorem dX5_addGuide_47 : decode cX5_addGuide 47 = .ok (.getfield 40, 3) := by decide +kernel
theorem dX5_addGuide_50 : decode cX5_addGuide 50 = .ok (.istore_n 3, 1) := by decide +kernel
theorem dX5_addGuide_51 : decode cX5_addGuide 51 = .ok (.aload_n 0, 1) := by decide +kernel
theorem dX5_addGuide_52 : decode cX5_addGuide 52 = .ok (.getfield 10, 3) := by decide +kernel
theorem dX5_addGuide_55 : decode cX5_addGuide 55 = .ok (.getfield 48, 3) := by decide +kernel
theorem dX5_addGuide_58 : decode cX5_addGuide 58 = .ok (.iload_n 3, 1) := by decide +kernel
theorem dX5_addGuide_59 : decode cX5_addGuide 59 = .ok (.aaload, 1) := by decide +kernel
theorem dX5_addGuide_60 : decode cX5_addGuide 60 = .ok (.iload_n 1, 1) := by decide +kernel
theorem dX5_addGuide_61 : decode cX5_addGuide 61 = .ok (.iload_n 2, 1) := by decide +kernel
theorem dX5_addGuide_62 : decode cX5_addGuide 62 = .ok (.invokevirtual 52, 3) := by decide +kernel
theorem dX5_addGuide_65 : decode cX5_addGuide 65 = .ok (.aload_n 0, 1) := by decide +kernel
theorem dX5_addGuide_66 : decode cX5_addGuide 66 = .ok (.getfield 10, 3) := by decide +kernel
theorem dX5_addGuide_69 : decode cX5_addGuide 69 = .ok (.dup, 1) := by decide +kernel
theorem dX5_addGuide_70 : decode cX5_addGuide 70 = .ok (.getfield 40, 3) := by decide +kernel
theorem dX5_addGuide_73 : decode cX5_addGuide 73 = .ok (.iconst 1, 1) := by decide +kernel
theorem dX5_addGuide_74 : decode cX5_addGuide 74 = .ok (.iadd, 1) := by decide +kernel
theorem dX5_addGuide_75 : decode cX5_addGuide 75 = .ok (.putfield 40, 3) := by decide +kernel
theorem dX5_addGuide_78 : decode cX5_addGuide 78 = .ok (.iload_n 3, 1) := by decide +kernel
theorem dX5_addGuide_79 : decode cX5_addGuide 79 = .ok (.ireturn, 1) := by decide +kernel
theorem dX5_addBridge_0 : decode cX5_addBridge 0 = .ok (.ldc2_w 71, 3) := by decide +kernel
theorem dX5_addBridge_3 : decode cX5_addBridge 3 = .ok (.lload_n 1, 1) := by decide +kernel
theorem dX5_addBridge_4 : decode cX5_addBridge 4 = .ok (.invokestatic 73, 3) := by decide +kernel
theorem dX5_addBridge_7 : decode cX5_addBridge 7 = .ok (.ifCond .ne 6, 3) := by decide +kernel
theorem dX5_addBridge_10 : decode cX5_addBridge 10 = .ok (.bipush (-2), 2) := by decide +kernel
theorem dX5_addBridge_12 : decode cX5_addBridge 12 = .ok (.ireturn, 1) := by decide +kernel
theorem dX5_addBridge_13 : decode cX5_addBridge 13 = .ok (.aload_n 0, 1) := by decide +kernel
theorem dX5_addBridge_14 : decode cX5_addBridge 14 = .ok (.getfield 10, 3) := by decide +kernel
theorem dX5_addBridge_17 : decode cX5_addBridge 17 = .ok (.getfield 77, 3) := by decide +kernel
theorem dX5_addBridge_20 : decode cX5_addBridge 20 = .ok (.bipush 6, 2) := by decide +kernel
theorem dX5_addBridge_22 : decode cX5_addBridge 22 = .ok (.if_icmp .lt 6, 3) := by decide +kernel
theorem dX5_addBridge_25 : decode cX5_addBridge 25 = .ok (.bipush (-3), 2) := by decide +kernel
theorem dX5_addBridge_27 : decode cX5_addBridge 27 = .ok (.ireturn, 1) := by decide +kernel
theorem dX5_addBridge_28 : decode cX5_addBridge 28 = .ok (.aload_n 0, 1) := by decide +kernel
theorem dX5_addBridge_29 : decode cX5_addBridge 29 = .ok (.getfield 22, 3) := by decide +kernel
theorem dX5_addBridge_32 : decode cX5_addBridge 32 = .ok (.aload_n 0, 1) := by decide +kernel
theorem dX5_addBridge_33 : decode cX5_addBridge 33 = .ok (.getfield 10, 3) := by decide +kernel
theorem dX5_addBridge_36 : decode cX5_addBridge 36 = .ok (.invokevirtual 44, 3) := by decide +kernel
theorem dX5_addBridge_39 : decode cX5_addBridge 39 = .ok (.aload_n 0, 1) := by decide +kernel
theorem dX5_addBridge_40 : decode cX5_addBridge 40 = .ok (.getfield 10, 3) := by decide +kernel
theorem dX5_addBridge_43 : decode cX5_addBridge 43 = .ok (.getfield 77, 3) := by decide +kernel
theorem dX5_addBridge_46 : decode cX5_addBridge 46 = .ok (.istore_n 3, 1) := by decide +kernel
theorem dX5_addBridge_47 : decode cX5_addBridge 47 = .ok (.aload_n 0, 1) := by decide +kernel
theorem dX5_addBridge_48 : decode cX5_addBridge 48 = .ok (.getfield 10, 3) := by decide +kernel
theorem dX5_addBridge_51 : decode cX5_addBridge 51 = .ok (.getfield 80, 3) := by decide +kernel
theorem dX5_addBridge_54 : decode cX5_addBridge 54 = .ok (.iload_n 3, 1) := by decide +kernel
theorem dX5_addBridge_55 : decode cX5_addBridge 55 = .ok (.lload_n 1, 1) := by decide +kernel
theorem dX5_addBridge_56 : decode cX5_addBridge 56 = .ok (.invokestatic 84, 3) := by decide +kernel
theorem dX5_addBridge_59 : decode cX5_addBridge 59 = .ok (.dastore, 1) := by decide +kernel
theorem dX5_addBridge_60 : decode cX5_addBridge 60 = .ok (.aload_n 0, 1) := by decide +kernel
theorem dX5_addBridge_61 : decode cX5_addBridge 61 = .ok (.getfield 10, 3) := by decide +kernel
theorem dX5_addBridge_64 : decode cX5_addBridge 64 = .ok (.dup, 1) := by decide +kernel
theorem dX5_addBridge_65 : decode cX5_addBridge 65 = .ok (.getfield 77, 3) := by decide +kernel
theorem dX5_addBridge_68 : decode cX5_addBridge 68 = .ok (.iconst 1, 1) := by decide +kernel
theorem dX5_addBridge_69 : decode cX5_addBridge 69 = .ok (.iadd, 1) := by decide +kernel
theorem dX5_addBridge_70 : decode cX5_addBridge 70 = .ok (.putfield 77, 3) := by decide +kernel
theorem dX5_addBridge_73 : decode cX5_addBridge 73 = .ok (.iload_n 3, 1) := by decide +kernel
theorem dX5_addBridge_74 : decode cX5_addBridge 74 = .ok (.ireturn, 1) := by decide +kernel
theorem dX5_setTemperature_0 : decode cX5_setTemperature 0 = .ok (.lload_n 1, 1) := by decide +kernel
theorem dX5_setTemperature_1 : decode cX5_setTemperature 1 = .ok (.invokestatic 88, 3) := by decide +kernel
theorem dX5_setTemperature_4 : decode cX5_setTemperature 4 = .ok (.ifCond .ne 6, 3) := by decide +kernel
theorem dX5_setTemperature_7 : decode cX5_setTemperature 7 = .ok (.bipush (-2), 2) := by decide +kernel
theorem dX5_setTemperature_9 : decode cX5_setTemperature 9 = .ok (.ireturn, 1) := by decide +kernel
theorem dX5_setTemperature_10 : decode cX5_setTemperature 10 = .ok (.lload_n 1, 1) := by decide +kernel
theorem dX5_setTemperature_11 : decode cX5_setTemperature 11 = .ok (.invokestatic 84, 3) := by decide +kernel
theorem dX5_setTemperature_14 : decode cX5_setTemperature 14 = .ok (.dstore_n 3, 1) := by decide +kernel
theorem dX5_setTemperature_15 : decode cX5_setTemperature 15 = .ok (.dload_n 3, 1) := by decide +kernel
theorem dX5_setTemperature_16 : decode cX5_setTemperature 16 = .ok (.aload_n 0, 1) := by decide +kernel
theorem dX5_setTemperature_17 : decode cX5_setTemperature 17 = .ok (.getfield 10, 3) := by decide +kernel
theorem dX5_setTemperature_20 : decode cX5_setTemperature 20 = .ok (.getfield 92, 3) := by decide +kernel
theorem dX5_setTemperature_23 : decode cX5_setTemperature 23 = .ok (.dcmp .l, 1) := by decide +kernel
theorem dX5_setTemperature_24 : decode cX5_setTemperature 24 = .ok (.ifCond .ne 6, 3) := by decide +kernel
theorem dX5_setTemperature_27 : decode cX5_setTemperature 27 = .ok (.bipush (-5), 2) := by decide +kernel
theorem dX5_setTemperature_29 : decode cX5_setTemperature 29 = .ok (.ireturn, 1) := by decide +kernel
theorem dX5_setTemperature_30 : decode cX5_setTemperature 30 = .ok (.aload_n 0, 1) := by decide +kernel
theorem dX5_setTemperature_31 : decode cX5_setTemperature 31 = .ok (.getfield 22, 3) := by decide +kernel
theorem dX5_setTemperature_34 : decode cX5_setTemperature 34 = .ok (.aload_n 0, 1) := by decide +kernel
theorem dX5_setTemperature_35 : decode cX5_setTemperature 35 = .ok (.getfield 10, 3) := by decide +kernel
theorem dX5_setTemperature_38 : decode cX5_setTemperature 38 = .ok (.invokevirtual 44, 3) := by decide +kernel
theorem dX5_setTemperature_41 : decode cX5_setTemperature 41 = .ok (.aload_n 0, 1) := by decide +kernel
theorem dX5_setTemperature_42 : decode cX5_setTemperature 42 = .ok (.getfield 10, 3) := by decide +kernel
theorem dX5_setTemperature_45 : decode cX5_setTemperature 45 = .ok (.dload_n 3, 1) := by decide +kernel
theorem dX5_setTemperature_46 : decode cX5_setTemperature 46 = .ok (.putfield 92, 3) := by decide +kernel
theorem dX5_setTemperature_49 : decode cX5_setTemperature 49 = .ok (.aload_n 0, 1) := by decide +kernel
theorem dX5_setTemperature_50 : decode cX5_setTemperature 50 = .ok (.getfield 10, 3) := by decide +kernel
theorem dX5_setTemperature_53 : decode cX5_setTemperature 53 = .ok (.lload_n 1, 1) := by decide +kernel
theorem dX5_setTemperature_54 : decode cX5_setTemperature 54 = .ok (.putfield 96, 3) := by decide +kernel
theorem dX5_setTemperature_57 : decode cX5_setTemperature 57 = .ok (.iconst 1, 1) := by decide +kernel
theorem dX5_setTemperature_58 : decode cX5_setTemperature 58 = .ok (.ireturn, 1) := by decide +kernel
theorem dX5_addTour_0 : decode cX5_addTour 0 = .ok (.iload_n 1, 1) := by decide +kernel
theorem dX5_addTour_1 : decode cX5_addTour 1 = .ok (.aload_n 0, 1) := by decide +kernel
theorem dX5_addTour_2 : decode cX5_addTour 2 = .ok (.getfield 10, 3) := by decide +kernel
theorem dX5_addTour_5 : decode cX5_addTour 5 = .ok (.getfield 100, 3) := by decide +kernel
theorem dX5_addTour_8 : decode cX5_addTour 8 = .ok (.if_icmp .lt 20, 3) := by decide +kernel
theorem dX5_addTour_11 : decode cX5_addTour 11 = .ok (.iload_n 1, 1) := by decide +kernel
theorem dX5_addTour_12 : decode cX5_addTour 12 = .ok (.sipush 999, 3) := by decide +kernel
theorem dX5_addTour_15 : decode cX5_addTour 15 = .ok (.if_icmp .gt 13, 3) := by decide +kernel
theorem dX5_addTour_18 : decode cX5_addTour 18 = .ok (.ldc2_w 103, 3) := by decide +kernel
theorem dX5_addTour_21 : decode cX5_addTour 21 = .ok (.lload_n 2, 1) := by decide +kernel
theorem dX5_addTour_22 : decode cX5_addTour 22 = .ok (.invokestatic 73, 3) := by decide +kernel
theorem dX5_addTour_25 : decode cX5_addTour 25 = .ok (.ifCond .ne 6, 3) := by decide +kernel
theorem dX5_addTour_28 : decode cX5_addTour 28 = .ok (.bipush (-2), 2) := by decide +kernel
theorem dX5_addTour_30 : decode cX5_addTour 30 = .ok (.ireturn, 1) := by decide +kernel
theorem dX5_addTour_31 : decode cX5_addTour 31 = .ok (.iload 4, 2) := by decide +kernel
theorem dX5_addTour_33 : decode cX5_addTour 33 = .ok (.iconst 1, 1) := by decide +kernel
theorem dX5_addTour_34 : decode cX5_addTour 34 = .ok (.if_icmp .lt 23, 3) := by decide +kernel
theorem dX5_addTour_37 : decode cX5_addTour 37 = .ok (.iload 4, 2) := by decide +kernel
theorem dX5_addTour_39 : decode cX5_addTour 39 = .ok (.sipush 9999, 3) := by decide +kernel
theorem dX5_addTour_42 : decode cX5_addTour 42 = .ok (.if_icmp .gt 15, 3) := by decide +kernel
theorem dX5_addTour_45 : decode cX5_addTour 45 = .ok (.aload_n 0, 1) := by decide +kernel
theorem dX5_addTour_46 : decode cX5_addTour 46 = .ok (.getfield 10, 3) := by decide +kernel
theorem dX5_addTour_49 : decode cX5_addTour 49 = .ok (.iload 5, 2) := by decide +kernel
theorem dX5_addTour_51 : decode cX5_addTour 51 = .ok (.invokevirtual 105, 3) := by decide +kernel
theorem dX5_addTour_54 : decode cX5_addTour 54 = .ok (.ifCond .ne 6, 3) := by decide +kernel
theorem dX5_addTour_57 : decode cX5_addTour 57 = .ok (.bipush (-2), 2) := by decide +kernel
theorem dX5_addTour_59 : decode cX5_addTour 59 = .ok (.ireturn, 1) := by decide +kernel
theorem dX5_addTour_60 : decode cX5_addTour 60 = .ok (.aload_n 0, 1) := by decide +kernel
theorem dX5_addTour_61 : decode cX5_addTour 61 = .ok (.getfield 10, 3) := by decide +kernel
theorem dX5_addTour_64 : decode cX5_addTour 64 = .ok (.getfield 108, 3) := by decide +kernel
theorem dX5_addTour_67 : decode cX5_addTour 67 = .ok (.bipush 10, 2) := by decide +kernel
theorem dX5_addTour_69 : decode cX5_addTour 69 = .ok (.if_icmp .lt 6, 3) := by decide +kernel
theorem dX5_addTour_72 : decode cX5_addTour 72 = .ok (.bipush (-3), 2) := by decide +kernel
theorem dX5_addTour_74 : decode cX5_addTour 74 = .ok (.ireturn, 1) := by decide +kernel
theorem dX5_addTour_75 : decode cX5_addTour 75 = .ok (.aload_n 0, 1) := by decide +kernel
theorem dX5_addTour_76 : decode cX5_addTour 76 = .ok (.getfield 22, 3) := by decide +kernel
theorem dX5_addTour_79 : decode cX5_addTour 79 = .ok (.aload_n 0, 1) := by decide +kernel
theorem dX5_addTour_80 : decode cX5_addTour 80 = .ok (.getfield 10, 3) := by decide +kernel
theorem dX5_addTour_83 : decode cX5_addTour 83 = .ok (.invokevirtual 44, 3) := by decide +kernel
theorem dX5_addTour_86 : decode cX5_addTour 86 = .ok (.aload_n 0, 1) := by decide +kernel
theorem dX5_addTour_87 : decode cX5_addTour 87 = .ok (.getfield 10, 3) := by decide +kernel
theorem dX5_addTour_90 : decode cX5_addTour 90 = .ok (.getfield 108, 3) := by decide +kernel
theorem dX5_addTour_93 : decode cX5_addTour 93 = .ok (.istore 6, 2) := by decide +kernel
theorem dX5_addTour_95 : decode cX5_addTour 95 = .ok (.aload_n 0, 1) := by decide +kernel
theorem dX5_addTour_96 : decode cX5_addTour 96 = .ok (.getfield 10, 3) := by decide +kernel
theorem dX5_addTour_99 : decode cX5_addTour 99 = .ok (.getfield 111, 3) := by decide +kernel
theorem dX5_addTour_102 : decode cX5_addTour 102 = .ok (.iload 6, 2) := by decide +kernel
theorem dX5_addTour_104 : decode cX5_addTour 104 = .ok (.aaload, 1) := by decide +kernel
theorem dX5_addTour_105 : decode cX5_addTour 105 = .ok (.iload_n 1, 1) := by decide +kernel
theorem dX5_addTour_106 : decode cX5_addTour 106 = .ok (.lload_n 2, 1) := by decide +kernel
theorem dX5_addTour_107 : decode cX5_addTour 107 = .ok (.invokestatic 84, 3) := by decide +kernel
theorem dX5_addTour_110 : decode cX5_addTour 110 = .ok (.iload 4, 2) := by decide +kernel
theorem dX5_addTour_112 : decode cX5_addTour 112 = .ok (.iload 5, 2) := by decide +kernel
theorem dX5_addTour_114 : decode cX5_addTour 114 = .ok (.invokevirtual 115, 3) := by decide +kernel
theorem dX5_addTour_117 : decode cX5_addTour 117 = .ok (.aload_n 0, 1) := by decide +kernel
theorem dX5_addTour_118 : decode cX5_addTour 118 = .ok (.getfield 10, 3) := by decide +kernel
theorem dX5_addTour_121 : decode cX5_addTour 121 = .ok (.dup, 1) := by decide +kernel
theorem dX5_addTour_122 : decode cX5_addTour 122 = .ok (.getfield 108, 3) := by decide +kernel
theorem dX5_addTour_125 : decode cX5_addTour 125 = .ok (.iconst 1, 1) := by decide +kernel
theorem dX5_addTour_126 : decode cX5_addTour 126 = .ok (.iadd, 1) := by decide +kernel
theorem dX5_addTour_127 : decode cX5_addTour 127 = .ok (.putfield 108, 3) := by decide +kernel
theorem dX5_addTour_130 : decode cX5_addTour 130 = .ok (.iload 6, 2) := by decide +kernel
theorem dX5_addTour_132 : decode cX5_addTour 132 = .ok (.ireturn, 1) := by decide +kernel
theorem dX5_book_0 : decode cX5_book 0 = .ok (.aload_n 0, 1) := by decide +kernel
theorem dX5_book_1 : decode cX5_book 1 = .ok (.getfield 10, 3) := by decide +kernel
theorem dX5_book_4 : decode cX5_book 4 = .ok (.iload_n 1, 1) := by decide +kernel
theorem dX5_book_5 : decode cX5_book 5 = .ok (.invokevirtual 120, 3) := by decide +kernel
theorem dX5_book_8 : decode cX5_book 8 = .ok (.astore_n 3, 1) := by decide +kernel
theorem dX5_book_9 : decode cX5_book 9 = .ok (.aload_n 3, 1) := by decide +kernel
theorem dX5_book_10 : decode cX5_book 10 = .ok (.ifnonnull 5, 3) := by decide +kernel
theorem dX5_book_13 : decode cX5_book 13 = .ok (.iconst (-1), 1) := by decide +kernel
theorem dX5_book_14 : decode cX5_book 14 = .ok (.ireturn, 1) := by decide +kernel
theorem dX5_book_15 : decode cX5_book 15 = .ok (.iload_n 2, 1) := by decide +kernel
theorem dX5_book_16 : decode cX5_book 16 = .ok (.invokestatic 124, 3) := by decide +kernel
theorem dX5_book_19 : decode cX5_book 19 = .ok (.ifCond .ne 6, 3) := by decide +kernel
theorem dX5_book_22 : decode cX5_book 22 = .ok (.bipush (-2), 2) := by decide +kernel
theorem dX5_book_24 : decode cX5_book 24 = .ok (.ireturn, 1) := by decide +kernel
theorem dX5_book_25 : decode cX5_book 25 = .ok (.aload_n 3, 1) := by decide +kernel
theorem dX5_book_26 : decode cX5_book 26 = .ok (.getfield 127, 3) := by decide +kernel
theorem dX5_book_29 : decode cX5_book 29 = .ok (.ifCond .eq 6, 3) := by decide +kernel
theorem dX5_book_32 : decode cX5_book 32 = .ok (.bipush (-4), 2) := by decide +kernel
theorem dX5_book_34 : decode cX5_book 34 = .ok (.ireturn, 1) := by decide +kernel
theorem dX5_book_35 : decode cX5_book 35 = .ok (.aload_n 3, 1) := by decide +kernel
theorem dX5_book_36 : decode cX5_book 36 = .ok (.getfield 130, 3) := by decide +kernel
theorem dX5_book_39 : decode cX5_book 39 = .ok (.iload_n 2, 1) := by decide +kernel
theorem dX5_book_40 : decode cX5_book 40 = .ok (.iadd, 1) := by decide +kernel
theorem dX5_book_41 : decode cX5_book 41 = .ok (.bipush 12, 2) := by decide +kernel
theorem dX5_book_43 : decode cX5_book 43 = .ok (.if_icmp .le 6, 3) := by decide +kernel
theorem dX5_book_46 : decode cX5_book 46 = .ok (.bipush (-3), 2) := by decide +kernel
theorem dX5_book_48 : decode cX5_book 48 = .ok (.ireturn, 1) := by decide +kernel
theorem dX5_book_49 : decode cX5_book 49 = .ok (.aload_n 0, 1) := by decide +kernel
theorem dX5_book_50 : decode cX5_book 50 = .ok (.getfield 22, 3) := by decide +kernel
theorem dX5_book_53 : decode cX5_book 53 = .ok (.aload_n 0, 1) := by decide +kernel
theorem dX5_book_54 : decode cX5_book 54 = .ok (.getfield 10, 3) := by decide +kernel
theorem dX5_book_57 : decode cX5_book 57 = .ok (.invokevirtual 44, 3) := by decide +kernel
theorem dX5_book_60 : decode cX5_book 60 = .ok (.aload_n 3, 1) := by decide +kernel
theorem dX5_book_61 : decode cX5_book 61 = .ok (.getfield 133, 3) := by decide +kernel
theorem dX5_book_64 : decode cX5_book 64 = .ok (.iload_n 2, 1) := by decide +kernel
theorem dX5_book_65 : decode cX5_book 65 = .ok (.imul, 1) := by decide +kernel
theorem dX5_book_66 : decode cX5_book 66 = .ok (.istore 4, 2) := by decide +kernel
theorem dX5_book_68 : decode cX5_book 68 = .ok (.aload_n 3, 1) := by decide +kernel
theorem dX5_book_69 : decode cX5_book 69 = .ok (.dup, 1) := by decide +kernel
theorem dX5_book_70 : decode cX5_book 70 = .ok (.getfield 130, 3) := by decide +kernel
theorem dX5_book_73 : decode cX5_book 73 = .ok (.iload_n 2, 1) := by decide +kernel
theorem dX5_book_74 : decode cX5_book 74 = .ok (.iadd, 1) := by decide +kernel
theorem dX5_book_75 : decode cX5_book 75 = .ok (.putfield 130, 3) := by decide +kernel
theorem dX5_book_78 : decode cX5_book 78 = .ok (.aload_n 3, 1) := by decide +kernel
theorem dX5_book_79 : decode cX5_book 79 = .ok (.dup, 1) := by decide +kernel
theorem dX5_book_80 : decode cX5_book 80 = .ok (.getfield 136, 3) := by decide +kernel
theorem dX5_book_83 : decode cX5_book 83 = .ok (.iload 4, 2) := by decide +kernel
theorem dX5_book_85 : decode cX5_book 85 = .ok (.iadd, 1) := by decide +kernel
theorem dX5_book_86 : decode cX5_book 86 = .ok (.putfield 136, 3) := by decide +kernel
theorem dX5_book_89 : decode cX5_book 89 = .ok (.iload 4, 2) := by decide +kernel
theorem dX5_book_91 : decode cX5_book 91 = .ok (.ireturn, 1) := by decide +kernel
theorem dX5_leave_0 : decode cX5_leave 0 = .ok (.aload_n 0, 1) := by decide +kernel
theorem dX5_leave_1 : decode cX5_leave 1 = .ok (.getfield 10, 3) := by decide +kernel
theorem dX5_leave_4 : decode cX5_leave 4 = .ok (.iload_n 1, 1) := by decide +kernel
theorem dX5_leave_5 : decode cX5_leave 5 = .ok (.invokevirtual 120, 3) := by decide +kernel
theorem dX5_leave_8 : decode cX5_leave 8 = .ok (.astore_n 3, 1) := by decide +kernel
theorem dX5_leave_9 : decode cX5_leave 9 = .ok (.aload_n 3, 1) := by decide +kernel
theorem dX5_leave_10 : decode cX5_leave 10 = .ok (.ifnonnull 5, 3) := by decide +kernel
theorem dX5_leave_13 : decode cX5_leave 13 = .ok (.iconst (-1), 1) := by decide +kernel
theorem dX5_leave_14 : decode cX5_leave 14 = .ok (.ireturn, 1) := by decide +kernel
theorem dX5_leave_15 : decode cX5_leave 15 = .ok (.iload_n 2, 1) := by decide +kernel
theorem dX5_leave_16 : decode cX5_leave 16 = .ok (.invokestatic 124, 3) := by decide +kernel
theorem dX5_leave_19 : decode cX5_leave 19 = .ok (.ifCond .ne 6, 3) := by decide +kernel
theorem dX5_leave_22 : decode cX5_leave 22 = .ok (.bipush (-2), 2) := by decide +kernel
theorem dX5_leave_24 : decode cX5_leave 24 = .ok (.ireturn, 1) := by decide +kernel
theorem dX5_leave_25 : decode cX5_leave 25 = .ok (.aload_n 3, 1) := by decide +kernel
theorem dX5_leave_26 : decode cX5_leave 26 = .ok (.getfield 127, 3) := by decide +kernel
theorem dX5_leave_29 : decode cX5_leave 29 = .ok (.ifCond .ne 11, 3) := by decide +kernel
theorem dX5_leave_32 : decode cX5_leave 32 = .ok (.aload_n 3, 1) := by decide +kernel
theorem dX5_leave_33 : decode cX5_leave 33 = .ok (.getfield 130, 3) := by decide +kernel
theorem dX5_leave_36 : decode cX5_leave 36 = .ok (.iload_n 2, 1) := by decide +kernel
theorem dX5_leave_37 : decode cX5_leave 37 = .ok (.if_icmp .ge 6, 3) := by decide +kernel
theorem dX5_leave_40 : decode cX5_leave 40 = .ok (.bipush (-4), 2) := by decide +kernel
theorem dX5_leave_42 : decode cX5_leave 42 = .ok (.ireturn, 1) := by decide +kernel
theorem dX5_leave_43 : decode cX5_leave 43 = .ok (.aload_n 0, 1) := by decide +kernel
theorem dX5_leave_44 : decode cX5_leave 44 = .ok (.getfield 22, 3) := by decide +kernel
theorem dX5_leave_47 : decode cX5_leave 47 = .ok (.aload_n 0, 1) := by decide +kernel
theorem dX5_leave_48 : decode cX5_leave 48 = .ok (.getfield 10, 3) := by decide +kernel
theorem dX5_leave_51 : decode cX5_leave 51 = .ok (.invokevirtual 44, 3) := by decide +kernel
theorem dX5_leave_54 : decode cX5_leave 54 = .ok (.aload_n 3, 1) := by decide +kernel
theorem dX5_leave_55 : decode cX5_leave 55 = .ok (.iload_n 2, 1) := by decide +kernel
theorem dX5_leave_56 : decode cX5_leave 56 = .ok (.aload_n 0, 1) := by decide +kernel
theorem dX5_leave_57 : decode cX5_leave 57 = .ok (.getfield 10, 3) := by decide +kernel
theorem dX5_leave_60 : decode cX5_leave 60 = .ok (.getfield 100, 3) := by decide +kernel
theorem dX5_leave_63 : decode cX5_leave 63 = .ok (.invokevirtual 139, 3) := by decide +kernel
theorem dX5_leave_66 : decode cX5_leave 66 = .ok (.istore 4, 2) := by decide +kernel
theorem dX5_leave_68 : decode cX5_leave 68 = .ok (.aload_n 3, 1) := by decide +kernel
theorem dX5_leave_69 : decode cX5_leave 69 = .ok (.dup, 1) := by decide +kernel
theorem dX5_leave_70 : decode cX5_leave 70 = .ok (.getfield 130, 3) := by decide +kernel
theorem dX5_leave_73 : decode cX5_leave 73 = .ok (.iload_n 2, 1) := by decide +kernel
theorem dX5_leave_74 : decode cX5_leave 74 = .ok (.isub, 1) := by decide +kernel
theorem dX5_leave_75 : decode cX5_leave 75 = .ok (.putfield 130, 3) := by decide +kernel
theorem dX5_leave_78 : decode cX5_leave 78 = .ok (.aload_n 0, 1) := by decide +kernel
theorem dX5_leave_79 : decode cX5_leave 79 = .ok (.getfield 10, 3) := by decide +kernel
theorem dX5_leave_82 : decode cX5_leave 82 = .ok (.aload_n 3, 1) := by decide +kernel
theorem dX5_leave_83 : decode cX5_leave 83 = .ok (.iload 4, 2) := by decide +kernel
theorem dX5_leave_85 : decode cX5_leave 85 = .ok (.invokevirtual 143, 3) := by decide +kernel
theorem dX5_leave_88 : decode cX5_leave 88 = .ok (.iload 4, 2) := by decide +kernel
theorem dX5_leave_90 : decode cX5_leave 90 = .ok (.ireturn, 1) := by decide +kernel
theorem dX5_lead_0 : decode cX5_lead 0 = .ok (.aload_n 0, 1) := by decide +kernel
theorem dX5_lead_1 : decode cX5_lead 1 = .ok (.getfield 10, 3) := by decide +kernel
theorem dX5_lead_4 : decode cX5_lead 4 = .ok (.iload_n 2, 1) := by decide +kernel
theorem dX5_lead_5 : decode cX5_lead 5 = .ok (.invokevirtual 120, 3) := by decide +kernel
theorem dX5_lead_8 : decode cX5_lead 8 = .ok (.astore_n 3, 1) := by decide +kernel
theorem dX5_lead_9 : decode cX5_lead 9 = .ok (.aload_n 0, 1) := by decide +kernel
theorem dX5_lead_10 : decode cX5_lead 10 = .ok (.getfield 10, 3) := by decide +kernel
theorem dX5_lead_13 : decode cX5_lead 13 = .ok (.iload_n 1, 1) := by decide +kernel
theorem dX5_lead_14 : decode cX5_lead 14 = .ok (.invokevirtual 58, 3) := by decide +kernel
theorem dX5_lead_17 : decode cX5_lead 17 = .ok (.ifnull 7, 3) := by decide +kernel
theorem dX5_lead_20 : decode cX5_lead 20 = .ok (.aload_n 3, 1) := by decide +kernel
theorem dX5_lead_21 : decode cX5_lead 21 = .ok (.ifnonnull 5, 3) := by decide +kernel
theorem dX5_lead_24 : decode cX5_lead 24 = .ok (.iconst (-1), 1) := by decide +kernel
theorem dX5_lead_25 : decode cX5_lead 25 = .ok (.ireturn, 1) := by decide +kernel
theorem dX5_lead_26 : decode cX5_lead 26 = .ok (.aload_n 0, 1) := by decide +kernel
theorem dX5_lead_27 : decode cX5_lead 27 = .ok (.getfield 10, 3) := by decide +kernel
theorem dX5_lead_30 : decode cX5_lead 30 = .ok (.iload_n 1, 1) := by decide +kernel
theorem dX5_lead_31 : decode cX5_lead 31 = .ok (.aload_n 3, 1) := by decide +kernel
theorem dX5_lead_32 : decode cX5_lead 32 = .ok (.invokevirtual 147, 3) := by decide +kernel
theorem dX5_lead_35 : decode cX5_lead 35 = .ok (.ifCond .ne 6, 3) := by decide +kernel
theorem dX5_lead_38 : decode cX5_lead 38 = .ok (.bipush (-4), 2) := by decide +kernel
theorem dX5_lead_40 : decode cX5_lead 40 = .ok (.ireturn, 1) := by decide +kernel
theorem dX5_lead_41 : decode cX5_lead 41 = .ok (.aload_n 3, 1) := by decide +kernel
theorem dX5_lead_42 : decode cX5_lead 42 = .ok (.getfield 151, 3) := by decide +kernel
theorem dX5_lead_45 : decode cX5_lead 45 = .ok (.iconst 4, 1) := by decide +kernel
theorem dX5_lead_46 : decode cX5_lead 46 = .ok (.if_icmp .lt 6, 3) := by decide +kernel
theorem dX5_lead_49 : decode cX5_lead 49 = .ok (.bipush (-3), 2) := by decide +kernel
theorem dX5_lead_51 : decode cX5_lead 51 = .ok (.ireturn, 1) := by decide +kernel
theorem dX5_lead_52 : decode cX5_lead 52 = .ok (.aload_n 0, 1) := by decide +kernel
theorem dX5_lead_53 : decode cX5_lead 53 = .ok (.getfield 22, 3) := by decide +kernel
theorem dX5_lead_56 : decode cX5_lead 56 = .ok (.aload_n 0, 1) := by decide +kernel
theorem dX5_lead_57 : decode cX5_lead 57 = .ok (.getfield 10, 3) := by decide +kernel
theorem dX5_lead_60 : decode cX5_lead 60 = .ok (.invokevirtual 44, 3) := by decide +kernel
theorem dX5_lead_63 : decode cX5_lead 63 = .ok (.aload_n 3, 1) := by decide +kernel
theorem dX5_lead_64 : decode cX5_lead 64 = .ok (.iload_n 1, 1) := by decide +kernel
theorem dX5_lead_65 : decode cX5_lead 65 = .ok (.invokevirtual 153, 3) := by decide +kernel
theorem dX5_lead_68 : decode cX5_lead 68 = .ok (.aload_n 0, 1) := by decide +kernel
theorem dX5_lead_69 : decode cX5_lead 69 = .ok (.getfield 10, 3) := by decide +kernel
theorem dX5_lead_72 : decode cX5_lead 72 = .ok (.iload_n 1, 1) := by decide +kernel
theorem dX5_lead_73 : decode cX5_lead 73 = .ok (.aload_n 3, 1) := by decide +kernel
theorem dX5_lead_74 : decode cX5_lead 74 = .ok (.invokevirtual 157, 3) := by decide +kernel
theorem dX5_lead_77 : decode cX5_lead 77 = .ok (.ireturn, 1) := by decide +kernel
theorem dX5_release_0 : decode cX5_release 0 = .ok (.aload_n 0, 1) := by decide +kernel
theorem dX5_release_1 : decode cX5_release 1 = .ok (.getfield 10, 3) := by decide +kernel
theorem dX5_release_4 : decode cX5_release 4 = .ok (.iload_n 2, 1) := by decide +kernel
theorem dX5_release_5 : decode cX5_release 5 = .ok (.invokevirtual 120, 3) := by decide +kernel
theorem dX5_release_8 : decode cX5_release 8 = .ok (.astore_n 3, 1) := by decide +kernel
theorem dX5_release_9 : decode cX5_release 9 = .ok (.aload_n 0, 1) := by decide +kernel
theorem dX5_release_10 : decode cX5_release 10 = .ok (.getfield 10, 3) := by decide +kernel
theorem dX5_release_13 : decode cX5_release 13 = .ok (.iload_n 1, 1) := by decide +kernel
theorem dX5_release_14 : decode cX5_release 14 = .ok (.invokevirtual 58, 3) := by decide +kernel
theorem dX5_release_17 : decode cX5_release 17 = .ok (.ifnull 7, 3) := by decide +kernel
theorem dX5_release_20 : decode cX5_release 20 = .ok (.aload_n 3, 1) := by decide +kernel
theorem dX5_release_21 : decode cX5_release 21 = .ok (.ifnonnull 5, 3) := by decide +kernel
theorem dX5_release_24 : decode cX5_release 24 = .ok (.iconst (-1), 1) := by decide +kernel
theorem dX5_release_25 : decode cX5_release 25 = .ok (.ireturn, 1) := by decide +kernel
theorem dX5_release_26 : decode cX5_release 26 = .ok (.aload_n 3, 1) := by decide +kernel
theorem dX5_release_27 : decode cX5_release 27 = .ok (.getfield 127, 3) := by decide +kernel
theorem dX5_release_30 : decode cX5_release 30 = .ok (.ifCond .eq 6, 3) := by decide +kernel
theorem dX5_release_33 : decode cX5_release 33 = .ok (.bipush (-4), 2) := by decide +kernel
theorem dX5_release_35 : decode cX5_release 35 = .ok (.ireturn, 1) := by decide +kernel
theorem dX5_release_36 : decode cX5_release 36 = .ok (.aload_n 3, 1) := by decide +kernel
theorem dX5_release_37 : decode cX5_release 37 = .ok (.iload_n 1, 1) := by decide +kernel
theorem dX5_release_38 : decode cX5_release 38 = .ok (.invokevirtual 161, 3) := by decide +kernel
theorem dX5_release_41 : decode cX5_release 41 = .ok (.ifCond .ne 6, 3) := by decide +kernel
theorem dX5_release_44 : decode cX5_release 44 = .ok (.bipush (-5), 2) := by decide +kernel
theorem dX5_release_46 : decode cX5_release 46 = .ok (.ireturn, 1) := by decide +kernel
theorem dX5_release_47 : decode cX5_release 47 = .ok (.aload_n 0, 1) := by decide +kernel
theorem dX5_release_48 : decode cX5_release 48 = .ok (.getfield 22, 3) := by decide +kernel
theorem dX5_release_51 : decode cX5_release 51 = .ok (.aload_n 0, 1) := by decide +kernel
theorem dX5_release_52 : decode cX5_release 52 = .ok (.getfield 10, 3) := by decide +kernel
theorem dX5_release_55 : decode cX5_release 55 = .ok (.invokevirtual 44, 3) := by decide +kernel
theorem dX5_release_58 : decode cX5_release 58 = .ok (.aload_n 3, 1) := by decide +kernel
theorem dX5_release_59 : decode cX5_release 59 = .ok (.iload_n 1, 1) := by decide +kernel
theorem dX5_release_60 : decode cX5_release 60 = .ok (.invokevirtual 164, 3) := by decide +kernel
theorem dX5_release_63 : decode cX5_release 63 = .ok (.aload_n 0, 1) := by decide +kernel
theorem dX5_release_64 : decode cX5_release 64 = .ok (.getfield 10, 3) := by decide +kernel
theorem dX5_release_67 : decode cX5_release 67 = .ok (.aload_n 3, 1) := by decide +kernel
theorem dX5_release_68 : decode cX5_release 68 = .ok (.aload_n 3, 1) := by decide +kernel
theorem dX5_release_69 : decode cX5_release 69 = .ok (.getfield 151, 3) := by decide +kernel
theorem dX5_release_72 : decode cX5_release 72 = .ok (.invokevirtual 167, 3) := by decide +kernel
theorem dX5_release_75 : decode cX5_release 75 = .ok (.ireturn, 1) := by decide +kernel
theorem dX5_merge_0 : decode cX5_merge 0 = .ok (.aload_n 0, 1) := by decide +kernel
theorem dX5_merge_1 : decode cX5_merge 1 = .ok (.getfield 10, 3) := by decide +kernel
theorem dX5_merge_4 : decode cX5_merge 4 = .ok (.iload_n 1, 1) := by decide +kernel
theorem dX5_merge_5 : decode cX5_merge 5 = .ok (.invokevirtual 120, 3) := by decide +kernel
theorem dX5_merge_8 : decode cX5_merge 8 = .ok (.astore_n 3, 1) := by decide +kernel
theorem dX5_merge_9 : decode cX5_merge 9 = .ok (.aload_n 0, 1) := by decide +kernel
theorem dX5_merge_10 : decode cX5_merge 10 = .ok (.getfield 10, 3) := by decide +kernel
theorem dX5_merge_13 : decode cX5_merge 13 = .ok (.iload_n 2, 1) := by decide +kernel
theorem dX5_merge_14 : decode cX5_merge 14 = .ok (.invokevirtual 120, 3) := by decide +kernel
theorem dX5_merge_17 : decode cX5_merge 17 = .ok (.astore 4, 2) := by decide +kernel
theorem dX5_merge_19 : decode cX5_merge 19 = .ok (.aload_n 3, 1) := by decide +kernel
theorem dX5_merge_20 : decode cX5_merge 20 = .ok (.ifnull 8, 3) := by decide +kernel
theorem dX5_merge_23 : decode cX5_merge 23 = .ok (.aload 4, 2) := by decide +kernel
theorem dX5_merge_25 : decode cX5_merge 25 = .ok (.ifnonnull 5, 3) := by decide +kernel
theorem dX5_merge_28 : decode cX5_merge 28 = .ok (.iconst (-1), 1) := by decide +kernel
theorem dX5_merge_29 : decode cX5_merge 29 = .ok (.ireturn, 1) := by decide +kernel
theorem dX5_merge_30 : decode cX5_merge 30 = .ok (.iload_n 1, 1) := by decide +kernel
theorem dX5_merge_31 : decode cX5_merge 31 = .ok (.iload_n 2, 1) := by decide +kernel
theorem dX5_merge_32 : decode cX5_merge 32 = .ok (.if_icmp .ne 6, 3) := by decide +kernel
theorem dX5_merge_35 : decode cX5_merge 35 = .ok (.bipush (-2), 2) := by decide +kernel
theorem dX5_merge_37 : decode cX5_merge 37 = .ok (.ireturn, 1) := by decide +kernel
theorem dX5_merge_38 : decode cX5_merge 38 = .ok (.aload_n 3, 1) := by decide +kernel
theorem dX5_merge_39 : decode cX5_merge 39 = .ok (.aload 4, 2) := by decide +kernel
theorem dX5_merge_41 : decode cX5_merge 41 = .ok (.invokevirtual 171, 3) := by decide +kernel
theorem dX5_merge_44 : decode cX5_merge 44 = .ok (.ifCond .ne 6, 3) := by decide +kernel
theorem dX5_merge_47 : decode cX5_merge 47 = .ok (.bipush (-4), 2) := by decide +kernel
theorem dX5_merge_49 : decode cX5_merge 49 = .ok (.ireturn, 1) := by decide +kernel
theorem dX5_merge_50 : decode cX5_merge 50 = .ok (.aload_n 0, 1) := by decide +kernel
theorem dX5_merge_51 : decode cX5_merge 51 = .ok (.getfield 22, 3) := by decide +kernel
theorem dX5_merge_54 : decode cX5_merge 54 = .ok (.aload_n 0, 1) := by decide +kernel
theorem dX5_merge_55 : decode cX5_merge 55 = .ok (.getfield 10, 3) := by decide +kernel
theorem dX5_merge_58 : decode cX5_merge 58 = .ok (.invokevirtual 44, 3) := by decide +kernel
theorem dX5_merge_61 : decode cX5_merge 61 = .ok (.aload 4, 2) := by decide +kernel
theorem dX5_merge_63 : decode cX5_merge 63 = .ok (.getfield 133, 3) := by decide +kernel
theorem dX5_merge_66 : decode cX5_merge 66 = .ok (.aload_n 3, 1) := by decide +kernel
theorem dX5_merge_67 : decode cX5_merge 67 = .ok (.getfield 130, 3) := by decide +kernel
theorem dX5_merge_70 : decode cX5_merge 70 = .ok (.imul, 1) := by decide +kernel
theorem dX5_merge_71 : decode cX5_merge 71 = .ok (.istore 5, 2) := by decide +kernel
theorem dX5_merge_73 : decode cX5_merge 73 = .ok (.aload_n 3, 1) := by decide +kernel
theorem dX5_merge_74 : decode cX5_merge 74 = .ok (.getfield 136, 3) := by decide +kernel
theorem dX5_merge_77 : decode cX5_merge 77 = .ok (.iload 5, 2) := by decide +kernel
theorem dX5_merge_79 : decode cX5_merge 79 = .ok (.if_icmp .le 13, 3) := by decide +kernel
theorem dX5_merge_82 : decode cX5_merge 82 = .ok (.aload_n 3, 1) := by decide +kernel
theorem dX5_merge_83 : decode cX5_merge 83 = .ok (.getfield 136, 3) := by decide +kernel
theorem dX5_merge_86 : decode cX5_merge 86 = .ok (.iload 5, 2) := by decide +kernel
theorem dX5_merge_88 : decode cX5_merge 88 = .ok (.isub, 1) := by decide +kernel
theorem dX5_merge_89 : decode cX5_merge 89 = .ok (.goto 4, 3) := by decide +kernel
theorem dX5_merge_92 : decode cX5_merge 92 = .ok (.iconst 0, 1) := by decide +kernel
theorem dX5_merge_93 : decode cX5_merge 93 = .ok (.istore 6, 2) := by decide +kernel
theorem dX5_merge_95 : decode cX5_merge 95 = .ok (.aload_n 0, 1) := by decide +kernel
theorem dX5_merge_96 : decode cX5_merge 96 = .ok (.getfield 10, 3) := by decide +kernel
theorem dX5_merge_99 : decode cX5_merge 99 = .ok (.aload_n 3, 1) := by decide +kernel
theorem dX5_merge_100 : decode cX5_merge 100 = .ok (.iload 6, 2) := by decide +kernel
theorem dX5_merge_102 : decode cX5_merge 102 = .ok (.invokevirtual 143, 3) := by decide +kernel
theorem dX5_merge_105 : decode cX5_merge 105 = .ok (.aload_n 3, 1) := by decide +kernel
theorem dX5_merge_106 : decode cX5_merge 106 = .ok (.aload 4, 2) := by decide +kernel
theorem dX5_merge_108 : decode cX5_merge 108 = .ok (.invokevirtual 175, 3) := by decide +kernel
theorem dX5_merge_111 : decode cX5_merge 111 = .ok (.iload 6, 2) := by decide +kernel
theorem dX5_merge_113 : decode cX5_merge 113 = .ok (.ireturn, 1) := by decide +kernel
theorem dX5_cancel_0 : decode cX5_cancel 0 = .ok (.aload_n 0, 1) := by decide +kernel
theorem dX5_cancel_1 : decode cX5_cancel 1 = .ok (.getfield 10, 3) := by decide +kernel
theorem dX5_cancel_4 : decode cX5_cancel 4 = .ok (.iload_n 1, 1) := by decide +kernel
theorem dX5_cancel_5 : decode cX5_cancel 5 = .ok (.invokevirtual 120, 3) := by decide +kernel
theorem dX5_cancel_8 : decode cX5_cancel 8 = .ok (.astore_n 2, 1) := by decide +kernel
theorem dX5_cancel_9 : decode cX5_cancel 9 = .ok (.aload_n 2, 1) := by decide +kernel
theorem dX5_cancel_10 : decode cX5_cancel 10 = .ok (.ifnonnull 5, 3) := by decide +kernel
theorem dX5_cancel_13 : decode cX5_cancel 13 = .ok (.iconst (-1), 1) := by decide +kernel
theorem dX5_cancel_14 : decode cX5_cancel 14 = .ok (.ireturn, 1) := by decide +kernel
theorem dX5_cancel_15 : decode cX5_cancel 15 = .ok (.aload_n 2, 1) := by decide +kernel
theorem dX5_cancel_16 : decode cX5_cancel 16 = .ok (.getfield 127, 3) := by decide +kernel
theorem dX5_cancel_19 : decode cX5_cancel 19 = .ok (.ifCond .eq 6, 3) := by decide +kernel
theorem dX5_cancel_22 : decode cX5_cancel 22 = .ok (.bipush (-4), 2) := by decide +kernel
theorem dX5_cancel_24 : decode cX5_cancel 24 = .ok (.ireturn, 1) := by decide +kernel
theorem dX5_cancel_25 : decode cX5_cancel 25 = .ok (.aload_n 0, 1) := by decide +kernel
theorem dX5_cancel_26 : decode cX5_cancel 26 = .ok (.getfield 22, 3) := by decide +kernel
theorem dX5_cancel_29 : decode cX5_cancel 29 = .ok (.aload_n 0, 1) := by decide +kernel
theorem dX5_cancel_30 : decode cX5_cancel 30 = .ok (.getfield 10, 3) := by decide +kernel
theorem dX5_cancel_33 : decode cX5_cancel 33 = .ok (.invokevirtual 44, 3) := by decide +kernel
theorem dX5_cancel_36 : decode cX5_cancel 36 = .ok (.aload_n 0, 1) := by decide +kernel
theorem dX5_cancel_37 : decode cX5_cancel 37 = .ok (.getfield 10, 3) := by decide +kernel
theorem dX5_cancel_40 : decode cX5_cancel 40 = .ok (.aload_n 2, 1) := by decide +kernel
theorem dX5_cancel_41 : decode cX5_cancel 41 = .ok (.iconst 4, 1) := by decide +kernel
theorem dX5_cancel_42 : decode cX5_cancel 42 = .ok (.invokevirtual 179, 3) := by decide +kernel
theorem dX5_cancel_45 : decode cX5_cancel 45 = .ok (.ireturn, 1) := by decide +kernel
theorem dX5_pass_0 : decode cX5_pass 0 = .ok (.iload_n 1, 1) := by decide +kernel
theorem dX5_pass_1 : decode cX5_pass 1 = .ok (.iconst 1, 1) := by decide +kernel
theorem dX5_pass_2 : decode cX5_pass 2 = .ok (.if_icmp .lt 9, 3) := by decide +kernel
theorem dX5_pass_5 : decode cX5_pass 5 = .ok (.iload_n 1, 1) := by decide +kernel
theorem dX5_pass_6 : decode cX5_pass 6 = .ok (.bipush 30, 2) := by decide +kernel
theorem dX5_pass_8 : decode cX5_pass 8 = .ok (.if_icmp .le 6, 3) := by decide +kernel
theorem dX5_pass_11 : decode cX5_pass 11 = .ok (.bipush (-2), 2) := by decide +kernel
theorem dX5_pass_13 : decode cX5_pass 13 = .ok (.ireturn, 1) := by decide +kernel
theorem dX5_pass_14 : decode cX5_pass 14 = .ok (.aload_n 0, 1) := by decide +kernel
theorem dX5_pass_15 : decode cX5_pass 15 = .ok (.getfield 10, 3) := by decide +kernel
theorem dX5_pass_18 : decode cX5_pass 18 = .ok (.getfield 100, 3) := by decide +kernel
theorem dX5_pass_21 : decode cX5_pass 21 = .ok (.iload_n 1, 1) := by decide +kernel
theorem dX5_pass_22 : decode cX5_pass 22 = .ok (.iadd, 1) := by decide +kernel
theorem dX5_pass_23 : decode cX5_pass 23 = .ok (.sipush 1000, 3) := by decide +kernel
theorem dX5_pass_26 : decode cX5_pass 26 = .ok (.if_icmp .le 6, 3) := by decide +kernel
theorem dX5_pass_29 : decode cX5_pass 29 = .ok (.bipush (-4), 2) := by decide +kernel
theorem dX5_pass_31 : decode cX5_pass 31 = .ok (.ireturn, 1) := by decide +kernel
theorem dX5_pass_32 : decode cX5_pass 32 = .ok (.aload_n 0, 1) := by decide +kernel
theorem dX5_pass_33 : decode cX5_pass 33 = .ok (.getfield 22, 3) := by decide +kernel
theorem dX5_pass_36 : decode cX5_pass 36 = .ok (.aload_n 0, 1) := by decide +kernel
theorem dX5_pass_37 : decode cX5_pass 37 = .ok (.getfield 10, 3) := by decide +kernel
theorem dX5_pass_40 : decode cX5_pass 40 = .ok (.invokevirtual 44, 3) := by decide +kernel
theorem dX5_pass_43 : decode cX5_pass 43 = .ok (.iconst 0, 1) := by decide +kernel
theorem dX5_pass_44 : decode cX5_pass 44 = .ok (.istore_n 2, 1) := by decide +kernel
theorem dX5_pass_45 : decode cX5_pass 45 = .ok (.iconst 0, 1) := by decide +kernel
theorem dX5_pass_46 : decode cX5_pass 46 = .ok (.istore_n 3, 1) := by decide +kernel
theorem dX5_pass_47 : decode cX5_pass 47 = .ok (.iload_n 3, 1) := by decide +kernel
theorem dX5_pass_48 : decode cX5_pass 48 = .ok (.iload_n 1, 1) := by decide +kernel
theorem dX5_pass_49 : decode cX5_pass 49 = .ok (.if_icmp .ge 19, 3) := by decide +kernel
theorem dX5_pass_52 : decode cX5_pass 52 = .ok (.iload_n 2, 1) := by decide +kernel
theorem dX5_pass_53 : decode cX5_pass 53 = .ok (.aload_n 0, 1) := by decide +kernel
theorem dX5_pass_54 : decode cX5_pass 54 = .ok (.getfield 10, 3) := by decide +kernel
theorem dX5_pass_57 : decode cX5_pass 57 = .ok (.invokevirtual 182, 3) := by decide +kernel
theorem dX5_pass_60 : decode cX5_pass 60 = .ok (.iadd, 1) := by decide +kernel
theorem dX5_pass_61 : decode cX5_pass 61 = .ok (.istore_n 2, 1) := by decide +kernel
theorem dX5_pass_62 : decode cX5_pass 62 = .ok (.iinc 3 1, 3) := by decide +kernel
theorem dX5_pass_65 : decode cX5_pass 65 = .ok (.goto (-18), 3) := by decide +kernel
theorem dX5_pass_68 : decode cX5_pass 68 = .ok (.iload_n 2, 1) := by decide +kernel
theorem dX5_pass_69 : decode cX5_pass 69 = .ok (.ireturn, 1) := by decide +kernel
theorem dX5_perform_0 : decode cX5_perform 0 = .ok (.aload_n 0, 1) := by decide +kernel
theorem dX5_perform_1 : decode cX5_perform 1 = .ok (.getfield 29, 3) := by decide +kernel
theorem dX5_perform_4 : decode cX5_perform 4 = .ok (.invokevirtual 193, 3) := by decide +kernel
theorem dX5_perform_7 : decode cX5_perform 7 = .ok (.istore_n 1, 1) := by decide +kernel
theorem dX5_perform_8 : decode cX5_perform 8 = .ok (.iload_n 1, 1) := by decide +kernel
theorem dX5_perform_9 : decode cX5_perform 9 = .ok (.iconst (-1), 1) := by decide +kernel
theorem dX5_perform_10 : decode cX5_perform 10 = .ok (.if_icmp .eq 8, 3) := by decide +kernel
theorem dX5_perform_13 : decode cX5_perform 13 = .ok (.bipush (-100), 2) := by decide +kernel
theorem dX5_perform_15 : decode cX5_perform 15 = .ok (.iload_n 1, 1) := by decide +kernel
theorem dX5_perform_16 : decode cX5_perform 16 = .ok (.isub, 1) := by decide +kernel
theorem dX5_perform_17 : decode cX5_perform 17 = .ok (.ireturn, 1) := by decide +kernel
theorem dX5_perform_18 : decode cX5_perform 18 = .ok (.aload_n 0, 1) := by decide +kernel
theorem dX5_perform_19 : decode cX5_perform 19 = .ok (.getfield 29, 3) := by decide +kernel
theorem dX5_perform_22 : decode cX5_perform 22 = .ok (.getfield 196, 3) := by decide +kernel
theorem dX5_perform_25 : decode cX5_perform 25 = .ok (.tableswitch 111 1 5 #[35, 54, 73, 111, 92], 35) := by decide +kernel
theorem dX5_perform_60 : decode cX5_perform 60 = .ok (.aload_n 0, 1) := by decide +kernel
theorem dX5_perform_61 : decode cX5_perform 61 = .ok (.aload_n 0, 1) := by decide +kernel
theorem dX5_perform_62 : decode cX5_perform 62 = .ok (.getfield 29, 3) := by decide +kernel
theorem dX5_perform_65 : decode cX5_perform 65 = .ok (.getfield 199, 3) := by decide +kernel
theorem dX5_perform_68 : decode cX5_perform 68 = .ok (.aload_n 0, 1) := by decide +kernel
theorem dX5_perform_69 : decode cX5_perform 69 = .ok (.getfield 29, 3) := by decide +kernel
theorem dX5_perform_72 : decode cX5_perform 72 = .ok (.getfield 202, 3) := by decide +kernel
theorem dX5_perform_75 : decode cX5_perform 75 = .ok (.invokevirtual 205, 3) := by decide +kernel
theorem dX5_perform_78 : decode cX5_perform 78 = .ok (.ireturn, 1) := by decide +kernel
theorem dX5_perform_79 : decode cX5_perform 79 = .ok (.aload_n 0, 1) := by decide +kernel
theorem dX5_perform_80 : decode cX5_perform 80 = .ok (.aload_n 0, 1) := by decide +kernel
theorem dX5_perform_81 : decode cX5_perform 81 = .ok (.getfield 29, 3) := by decide +kernel
theorem dX5_perform_84 : decode cX5_perform 84 = .ok (.getfield 199, 3) := by decide +kernel
theorem dX5_perform_87 : decode cX5_perform 87 = .ok (.aload_n 0, 1) := by decide +kernel
theorem dX5_perform_88 : decode cX5_perform 88 = .ok (.getfield 29, 3) := by decide +kernel
theorem dX5_perform_91 : decode cX5_perform 91 = .ok (.getfield 202, 3) := by decide +kernel
theorem dX5_perform_94 : decode cX5_perform 94 = .ok (.invokevirtual 208, 3) := by decide +kernel
theorem dX5_perform_97 : decode cX5_perform 97 = .ok (.ireturn, 1) := by decide +kernel
theorem dX5_perform_98 : decode cX5_perform 98 = .ok (.aload_n 0, 1) := by decide +kernel
theorem dX5_perform_99 : decode cX5_perform 99 = .ok (.aload_n 0, 1) := by decide +kernel
theorem dX5_perform_100 : decode cX5_perform 100 = .ok (.getfield 29, 3) := by decide +kernel
theorem dX5_perform_103 : decode cX5_perform 103 = .ok (.getfield 199, 3) := by decide +kernel
theorem dX5_perform_106 : decode cX5_perform 106 = .ok (.aload_n 0, 1) := by decide +kernel
theorem dX5_perform_107 : decode cX5_perform 107 = .ok (.getfield 29, 3) := by decide +kernel
theorem dX5_perform_110 : decode cX5_perform 110 = .ok (.getfield 202, 3) := by decide +kernel
theorem dX5_perform_113 : decode cX5_perform 113 = .ok (.invokevirtual 211, 3) := by decide +kernel
theorem dX5_perform_116 : decode cX5_perform 116 = .ok (.ireturn, 1) := by decide +kernel
theorem dX5_perform_117 : decode cX5_perform 117 = .ok (.aload_n 0, 1) := by decide +kernel
theorem dX5_perform_118 : decode cX5_perform 118 = .ok (.aload_n 0, 1) := by decide +kernel
theorem dX5_perform_119 : decode cX5_perform 119 = .ok (.getfield 29, 3) := by decide +kernel
theorem dX5_perform_122 : decode cX5_perform 122 = .ok (.getfield 199, 3) := by decide +kernel
theorem dX5_perform_125 : decode cX5_perform 125 = .ok (.aload_n 0, 1) := by decide +kernel
theorem dX5_perform_126 : decode cX5_perform 126 = .ok (.getfield 29, 3) := by decide +kernel
theorem dX5_perform_129 : decode cX5_perform 129 = .ok (.getfield 202, 3) := by decide +kernel
theorem dX5_perform_132 : decode cX5_perform 132 = .ok (.invokevirtual 214, 3) := by decide +kernel
theorem dX5_perform_135 : decode cX5_perform 135 = .ok (.ireturn, 1) := by decide +kernel
theorem dX5_perform_136 : decode cX5_perform 136 = .ok (.aload_n 0, 1) := by decide +kernel
theorem dX5_perform_137 : decode cX5_perform 137 = .ok (.aload_n 0, 1) := by decide +kernel
theorem dX5_perform_138 : decode cX5_perform 138 = .ok (.getfield 29, 3) := by decide +kernel
theorem dX5_perform_141 : decode cX5_perform 141 = .ok (.getfield 199, 3) := by decide +kernel
theorem dX5_perform_144 : decode cX5_perform 144 = .ok (.invokevirtual 217, 3) := by decide +kernel
theorem dX5_perform_147 : decode cX5_perform 147 = .ok (.ireturn, 1) := by decide +kernel
theorem dX5_undo_0 : decode cX5_undo 0 = .ok (.aload_n 0, 1) := by decide +kernel
theorem dX5_undo_1 : decode cX5_undo 1 = .ok (.getfield 22, 3) := by decide +kernel
theorem dX5_undo_4 : decode cX5_undo 4 = .ok (.getfield 221, 3) := by decide +kernel
theorem dX5_undo_7 : decode cX5_undo 7 = .ok (.ifCond .ne 6, 3) := by decide +kernel
theorem dX5_undo_10 : decode cX5_undo 10 = .ok (.bipush (-5), 2) := by decide +kernel
theorem dX5_undo_12 : decode cX5_undo 12 = .ok (.ireturn, 1) := by decide +kernel
theorem dX5_undo_13 : decode cX5_undo 13 = .ok (.aload_n 0, 1) := by decide +kernel
theorem dX5_undo_14 : decode cX5_undo 14 = .ok (.getfield 22, 3) := by decide +kernel
theorem dX5_undo_17 : decode cX5_undo 17 = .ok (.aload_n 0, 1) := by decide +kernel
theorem dX5_undo_18 : decode cX5_undo 18 = .ok (.getfield 10, 3) := by decide +kernel
theorem dX5_undo_21 : decode cX5_undo 21 = .ok (.invokevirtual 224, 3) := by decide +kernel
theorem dX5_undo_24 : decode cX5_undo 24 = .ok (.aload_n 0, 1) := by decide +kernel
theorem dX5_undo_25 : decode cX5_undo 25 = .ok (.getfield 22, 3) := by decide +kernel
theorem dX5_undo_28 : decode cX5_undo 28 = .ok (.getfield 221, 3) := by decide +kernel
theorem dX5_undo_31 : decode cX5_undo 31 = .ok (.ireturn, 1) := by decide +kernel
theorem dX5_keep_0 : decode cX5_keep 0 = .ok (.aload_n 0, 1) := by decide +kernel
theorem dX5_keep_1 : decode cX5_keep 1 = .ok (.getfield 16, 3) := by decide +kernel
theorem dX5_keep_4 : decode cX5_keep 4 = .ok (.aload_n 0, 1) := by decide +kernel
theorem dX5_keep_5 : decode cX5_keep 5 = .ok (.getfield 10, 3) := by decide +kernel
theorem dX5_keep_8 : decode cX5_keep 8 = .ok (.invokevirtual 227, 3) := by decide +kernel
theorem dX5_keep_11 : decode cX5_keep 11 = .ok (.aload_n 0, 1) := by decide +kernel
theorem dX5_keep_12 : decode cX5_keep 12 = .ok (.iconst 1, 1) := by decide +kernel
theorem dX5_keep_13 : decode cX5_keep 13 = .ok (.putfield 230, 3) := by decide +kernel
theorem dX5_keep_16 : decode cX5_keep 16 = .ok (.aload_n 0, 1) := by decide +kernel
theorem dX5_keep_17 : decode cX5_keep 17 = .ok (.getfield 10, 3) := by decide +kernel
theorem dX5_keep_20 : decode cX5_keep 20 = .ok (.getfield 100, 3) := by decide +kernel
theorem dX5_keep_23 : decode cX5_keep 23 = .ok (.ireturn, 1) := by decide +kernel
theorem dX5_restore_0 : decode cX5_restore 0 = .ok (.aload_n 0, 1) := by decide +kernel
theorem dX5_restore_1 : decode cX5_restore 1 = .ok (.getfield 230, 3) := by decide +kernel
theorem dX5_restore_4 : decode cX5_restore 4 = .ok (.ifCond .ne 6, 3) := by decide +kernel
theorem dX5_restore_7 : decode cX5_restore 7 = .ok (.bipush (-5), 2) := by decide +kernel
theorem dX5_restore_9 : decode cX5_restore 9 = .ok (.ireturn, 1) := by decide +kernel
theorem dX5_restore_10 : decode cX5_restore 10 = .ok (.aload_n 0, 1) := by decide +kernel
theorem dX5_restore_11 : decode cX5_restore 11 = .ok (.getfield 22, 3) := by decide +kernel
theorem dX5_restore_14 : decode cX5_restore 14 = .ok (.aload_n 0, 1) := by decide +kernel
theorem dX5_restore_15 : decode cX5_restore 15 = .ok (.getfield 10, 3) := by decide +kernel
theorem dX5_restore_18 : decode cX5_restore 18 = .ok (.invokevirtual 44, 3) := by decide +kernel
theorem dX5_restore_21 : decode cX5_restore 21 = .ok (.aload_n 0, 1) := by decide +kernel
theorem dX5_restore_22 : decode cX5_restore 22 = .ok (.getfield 10, 3) := by decide +kernel
theorem dX5_restore_25 : decode cX5_restore 25 = .ok (.aload_n 0, 1) := by decide +kernel
theorem dX5_restore_26 : decode cX5_restore 26 = .ok (.getfield 16, 3) := by decide +kernel
theorem dX5_restore_29 : decode cX5_restore 29 = .ok (.invokevirtual 227, 3) := by decide +kernel
theorem dX5_restore_32 : decode cX5_restore 32 = .ok (.aload_n 0, 1) := by decide +kernel
theorem dX5_restore_33 : decode cX5_restore 33 = .ok (.getfield 10, 3) := by decide +kernel
theorem dX5_restore_36 : decode cX5_restore 36 = .ok (.getfield 100, 3) := by decide +kernel
theorem dX5_restore_39 : decode cX5_restore 39 = .ok (.ireturn, 1) := by decide +kernel
theorem dX5_guide_0 : decode cX5_guide 0 = .ok (.aload_n 0, 1) := by decide +kernel
theorem dX5_guide_1 : decode cX5_guide 1 = .ok (.getfield 10, 3) := by decide +kernel
theorem dX5_guide_4 : decode cX5_guide 4 = .ok (.iload_n 1, 1) := by decide +kernel
theorem dX5_guide_5 : decode cX5_guide 5 = .ok (.invokevirtual 58, 3) := by decide +kernel
theorem dX5_guide_8 : decode cX5_guide 8 = .ok (.astore_n 3, 1) := by decide +kernel
theorem dX5_guide_9 : decode cX5_guide 9 = .ok (.aload_n 3, 1) := by decide +kernel
theorem dX5_guide_10 : decode cX5_guide 10 = .ok (.ifnonnull 5, 3) := by decide +kernel
theorem dX5_guide_13 : decode cX5_guide 13 = .ok (.iconst (-1), 1) := by decide +kernel
theorem dX5_guide_14 : decode cX5_guide 14 = .ok (.ireturn, 1) := by decide +kernel
theorem dX5_guide_15 : decode cX5_guide 15 = .ok (.iload_n 2, 1) := by decide +kernel
theorem dX5_guide_16 : decode cX5_guide 16 = .ok (.tableswitch 89 0 5 #[40, 45, 50, 70, 79, 84], 40) := by decide +kernel
theorem dX5_guide_56 : decode cX5_guide 56 = .ok (.aload_n 3, 1) := by decide +kernel
theorem dX5_guide_57 : decode cX5_guide 57 = .ok (.getfield 62, 3) := by decide +kernel
theorem dX5_guide_60 : decode cX5_guide 60 = .ok (.ireturn, 1) := by decide +kernel
theorem dX5_guide_61 : decode cX5_guide 61 = .ok (.aload_n 3, 1) := by decide +kernel
theorem dX5_guide_62 : decode cX5_guide 62 = .ok (.getfield 65, 3) := by decide +kernel
theorem dX5_guide_65 : decode cX5_guide 65 = .ok (.ireturn, 1) := by decide +kernel
theorem dX5_guide_66 : decode cX5_guide 66 = .ok (.aload_n 3, 1) := by decide +kernel
theorem dX5_guide_67 : decode cX5_guide 67 = .ok (.aload_n 0, 1) := by decide +kernel
theorem dX5_guide_68 : decode cX5_guide 68 = .ok (.getfield 10, 3) := by decide +kernel
theorem dX5_guide_71 : decode cX5_guide 71 = .ok (.getfield 100, 3) := by decide +kernel
theorem dX5_guide_74 : decode cX5_guide 74 = .ok (.invokevirtual 234, 3) := by decide +kernel
theorem dX5_guide_77 : decode cX5_guide 77 = .ok (.ifCond .eq 7, 3) := by decide +kernel
theorem dX5_guide_80 : decode cX5_guide 80 = .ok (.iconst 1, 1) := by decide +kernel
theorem dX5_guide_81 : decode cX5_guide 81 = .ok (.goto 4, 3) := by decide +kernel
theorem dX5_guide_84 : decode cX5_guide 84 = .ok (.iconst 0, 1) := by decide +kernel
theorem dX5_guide_85 : decode cX5_guide 85 = .ok (.ireturn, 1) := by decide +kernel
theorem dX5_guide_86 : decode cX5_guide 86 = .ok (.aload_n 0, 1) := by decide +kernel
theorem dX5_guide_87 : decode cX5_guide 87 = .ok (.getfield 10, 3) := by decide +kernel
theorem dX5_guide_90 : decode cX5_guide 90 = .ok (.iload_n 1, 1) := by decide +kernel
theorem dX5_guide_91 : decode cX5_guide 91 = .ok (.invokevirtual 237, 3) := by decide +kernel
theorem dX5_guide_94 : decode cX5_guide 94 = .ok (.ireturn, 1) := by decide +kernel
theorem dX5_guide_95 : decode cX5_guide 95 = .ok (.aload_n 3, 1) := by decide +kernel
theorem dX5_guide_96 : decode cX5_guide 96 = .ok (.getfield 240, 3) := by decide +kernel
theorem dX5_guide_99 : decode cX5_guide 99 = .ok (.ireturn, 1) := by decide +kernel
theorem dX5_guide_100 : decode cX5_guide 100 = .ok (.aload_n 3, 1) := by decide +kernel
theorem dX5_guide_101 : decode cX5_guide 101 = .ok (.getfield 243, 3) := by decide +kernel
theorem dX5_guide_104 : decode cX5_guide 104 = .ok (.ireturn, 1) := by decide +kernel
theorem dX5_guide_105 : decode cX5_guide 105 = .ok (.bipush (-2), 2) := by decide +kernel
theorem dX5_guide_107 : decode cX5_guide 107 = .ok (.ireturn, 1) := by decide +kernel
theorem dX5_tour_0 : decode cX5_tour 0 = .ok (.aload_n 0, 1) := by decide +kernel
theorem dX5_tour_1 : decode cX5_tour 1 = .ok (.getfield 10, 3) := by decide +kernel
theorem dX5_tour_4 : decode cX5_tour 4 = .ok (.iload_n 1, 1) := by decide +kernel
theorem dX5_tour_5 : decode cX5_tour 5 = .ok (.invokevirtual 120, 3) := by decide +kernel
theorem dX5_tour_8 : decode cX5_tour 8 = .ok (.astore_n 3, 1) := by decide +kernel
theorem dX5_tour_9 : decode cX5_tour 9 = .ok (.aload_n 3, 1) := by decide +kernel
theorem dX5_tour_10 : decode cX5_tour 10 = .ok (.ifnonnull 5, 3) := by decide +kernel
theorem dX5_tour_13 : decode cX5_tour 13 = .ok (.iconst (-1), 1) := by decide +kernel
theorem dX5_tour_14 : decode cX5_tour 14 = .ok (.ireturn, 1) := by decide +kernel
theorem dX5_tour_15 : decode cX5_tour 15 = .ok (.iload_n 2, 1) := by decide +kernel
theorem dX5_tour_16 : decode cX5_tour 16 = .ok (.tableswitch 152 0 10 #[60, 65, 70, 75, 80, 85, 90, 95, 113, 126, 131], 60) := by decide +kernel
theorem dX5_tour_76 : decode cX5_tour 76 = .ok (.aload_n 3, 1) := by decide +kernel
theorem dX5_tour_77 : decode cX5_tour 77 = .ok (.getfield 246, 3) := by decide +kernel
theorem dX5_tour_80 : decode cX5_tour 80 = .ok (.ireturn, 1) := by decide +kernel
theorem dX5_tour_81 : decode cX5_tour 81 = .ok (.aload_n 3, 1) := by decide +kernel
theorem dX5_tour_82 : decode cX5_tour 82 = .ok (.getfield 133, 3) := by decide +kernel
theorem dX5_tour_85 : decode cX5_tour 85 = .ok (.ireturn, 1) := by decide +kernel
theorem dX5_tour_86 : decode cX5_tour 86 = .ok (.aload_n 3, 1) := by decide +kernel
theorem dX5_tour_87 : decode cX5_tour 87 = .ok (.getfield 247, 3) := by decide +kernel
theorem dX5_tour_90 : decode cX5_tour 90 = .ok (.ireturn, 1) := by decide +kernel
theorem dX5_tour_91 : decode cX5_tour 91 = .ok (.aload_n 3, 1) := by decide +kernel
theorem dX5_tour_92 : decode cX5_tour 92 = .ok (.getfield 130, 3) := by decide +kernel
theorem dX5_tour_95 : decode cX5_tour 95 = .ok (.ireturn, 1) := by decide +kernel
theorem dX5_tour_96 : decode cX5_tour 96 = .ok (.aload_n 3, 1) := by decide +kernel
theorem dX5_tour_97 : decode cX5_tour 97 = .ok (.getfield 151, 3) := by decide +kernel
theorem dX5_tour_100 : decode cX5_tour 100 = .ok (.ireturn, 1) := by decide +kernel
theorem dX5_tour_101 : decode cX5_tour 101 = .ok (.aload_n 3, 1) := by decide +kernel
theorem dX5_tour_102 : decode cX5_tour 102 = .ok (.getfield 136, 3) := by decide +kernel
theorem dX5_tour_105 : decode cX5_tour 105 = .ok (.ireturn, 1) := by decide +kernel
theorem dX5_tour_106 : decode cX5_tour 106 = .ok (.aload_n 3, 1) := by decide +kernel
theorem dX5_tour_107 : decode cX5_tour 107 = .ok (.getfield 127, 3) := by decide +kernel
theorem dX5_tour_110 : decode cX5_tour 110 = .ok (.ireturn, 1) := by decide +kernel
theorem dX5_tour_111 : decode cX5_tour 111 = .ok (.aload_n 3, 1) := by decide +kernel
theorem dX5_tour_112 : decode cX5_tour 112 = .ok (.getfield 127, 3) := by decide +kernel
theorem dX5_tour_115 : decode cX5_tour 115 = .ok (.iconst 2, 1) := by decide +kernel
theorem dX5_tour_116 : decode cX5_tour 116 = .ok (.if_icmp .ne 10, 3) := by decide +kernel
theorem dX5_tour_119 : decode cX5_tour 119 = .ok (.aload_n 3, 1) := by decide +kernel
theorem dX5_tour_120 : decode cX5_tour 120 = .ok (.getfield 250, 3) := by decide +kernel
theorem dX5_tour_123 : decode cX5_tour 123 = .ok (.goto 5, 3) := by decide +kernel
theorem dX5_tour_126 : decode cX5_tour 126 = .ok (.bipush (-5), 2) := by decide +kernel
theorem dX5_tour_128 : decode cX5_tour 128 = .ok (.ireturn, 1) := by decide +kernel
theorem dX5_tour_129 : decode cX5_tour 129 = .ok (.aload_n 0, 1) := by decide +kernel
theorem dX5_tour_130 : decode cX5_tour 130 = .ok (.getfield 10, 3) := by decide +kernel
theorem dX5_tour_133 : decode cX5_tour 133 = .ok (.aload_n 3, 1) := by decide +kernel
theorem dX5_tour_134 : decode cX5_tour 134 = .ok (.aload_n 3, 1) := by decide +kernel
theorem dX5_tour_135 : decode cX5_tour 135 = .ok (.getfield 151, 3) := by decide +kernel
theorem dX5_tour_138 : decode cX5_tour 138 = .ok (.invokevirtual 167, 3) := by decide +kernel
theorem dX5_tour_141 : decode cX5_tour 141 = .ok (.ireturn, 1) := by decide +kernel
theorem dX5_tour_142 : decode cX5_tour 142 = .ok (.aload_n 3, 1) := by decide +kernel
theorem dX5_tour_143 : decode cX5_tour 143 = .ok (.getfield 253, 3) := by decide +kernel
theorem dX5_tour_146 : decode cX5_tour 146 = .ok (.ireturn, 1) := by decide +kernel
theorem dX5_tour_147 : decode cX5_tour 147 = .ok (.aload_n 3, 1) := by decide +kernel
theorem dX5_tour_148 : decode cX5_tour 148 = .ok (.getfield 127, 3) := by decide +kernel
theorem dX5_tour_151 : decode cX5_tour 151 = .ok (.ifCond .ne 14, 3) := by decide +kernel
theorem dX5_tour_154 : decode cX5_tour 154 = .ok (.aload_n 0, 1) := by decide +kernel
theorem dX5_tour_155 : decode cX5_tour 155 = .ok (.getfield 10, 3) := by decide +kernel
theorem dX5_tour_158 : decode cX5_tour 158 = .ok (.aload_n 3, 1) := by decide +kernel
theorem dX5_tour_159 : decode cX5_tour 159 = .ok (.invokevirtual 256, 3) := by decide +kernel
theorem dX5_tour_162 : decode cX5_tour 162 = .ok (.goto 5, 3) := by decide +kernel
theorem dX5_tour_165 : decode cX5_tour 165 = .ok (.bipush (-5), 2) := by decide +kernel
theorem dX5_tour_167 : decode cX5_tour 167 = .ok (.ireturn, 1) := by decide +kernel
theorem dX5_tour_168 : decode cX5_tour 168 = .ok (.bipush (-2), 2) := by decide +kernel
theorem dX5_tour_170 : decode cX5_tour 170 = .ok (.ireturn, 1) := by decide +kernel
theorem dX5_rope_0 : decode cX5_rope 0 = .ok (.aload_n 0, 1) := by decide +kernel
theorem dX5_rope_1 : decode cX5_rope 1 = .ok (.getfield 10, 3) := by decide +kernel
theorem dX5_rope_4 : decode cX5_rope 4 = .ok (.iload_n 1, 1) := by decide +kernel
theorem dX5_rope_5 : decode cX5_rope 5 = .ok (.invokevirtual 120, 3) := by decide +kernel
theorem dX5_rope_8 : decode cX5_rope 8 = .ok (.astore 4, 2) := by decide +kernel
theorem dX5_rope_10 : decode cX5_rope 10 = .ok (.aload 4, 2) := by decide +kernel
theorem dX5_rope_12 : decode cX5_rope 12 = .ok (.ifnonnull 5, 3) := by decide +kernel
theorem dX5_rope_15 : decode cX5_rope 15 = .ok (.iconst (-1), 1) := by decide +kernel
theorem dX5_rope_16 : decode cX5_rope 16 = .ok (.ireturn, 1) := by decide +kernel
theorem dX5_rope_17 : decode cX5_rope 17 = .ok (.iload_n 2, 1) := by decide +kernel
theorem dX5_rope_18 : decode cX5_rope 18 = .ok (.ifCond .lt 12, 3) := by decide +kernel
theorem dX5_rope_21 : decode cX5_rope 21 = .ok (.iload_n 3, 1) := by decide +kernel
theorem dX5_rope_22 : decode cX5_rope 22 = .ok (.ifCond .lt 8, 3) := by decide +kernel
theorem dX5_rope_25 : decode cX5_rope 25 = .ok (.iload_n 3, 1) := by decide +kernel
theorem dX5_rope_26 : decode cX5_rope 26 = .ok (.iconst 2, 1) := by decide +kernel
theorem dX5_rope_27 : decode cX5_rope 27 = .ok (.if_icmp .le 6, 3) := by decide +kernel
theorem dX5_rope_30 : decode cX5_rope 30 = .ok (.bipush (-2), 2) := by decide +kernel
theorem dX5_rope_32 : decode cX5_rope 32 = .ok (.ireturn, 1) := by decide +kernel
theorem dX5_rope_33 : decode cX5_rope 33 = .ok (.iload_n 2, 1) := by decide +kernel
theorem dX5_rope_34 : decode cX5_rope 34 = .ok (.aload 4, 2) := by decide +kernel
theorem dX5_rope_36 : decode cX5_rope 36 = .ok (.getfield 151, 3) := by decide +kernel
theorem dX5_rope_39 : decode cX5_rope 39 = .ok (.if_icmp .lt 6, 3) := by decide +kernel
theorem dX5_rope_42 : decode cX5_rope 42 = .ok (.bipush (-5), 2) := by decide +kernel
theorem dX5_rope_44 : decode cX5_rope 44 = .ok (.ireturn, 1) := by decide +kernel
theorem dX5_rope_45 : decode cX5_rope 45 = .ok (.iload_n 3, 1) := by decide +kernel
theorem dX5_rope_46 : decode cX5_rope 46 = .ok (.ifCond .ne 11, 3) := by decide +kernel
theorem dX5_rope_49 : decode cX5_rope 49 = .ok (.aload 4, 2) := by decide +kernel
theorem dX5_rope_51 : decode cX5_rope 51 = .ok (.getfield 260, 3) := by decide +kernel
theorem dX5_rope_54 : decode cX5_rope 54 = .ok (.iload_n 2, 1) := by decide +kernel
theorem dX5_rope_55 : decode cX5_rope 55 = .ok (.iaload, 1) := by decide +kernel
theorem dX5_rope_56 : decode cX5_rope 56 = .ok (.ireturn, 1) := by decide +kernel
theorem dX5_rope_57 : decode cX5_rope 57 = .ok (.iload_n 3, 1) := by decide +kernel
theorem dX5_rope_58 : decode cX5_rope 58 = .ok (.iconst 1, 1) := by decide +kernel
theorem dX5_rope_59 : decode cX5_rope 59 = .ok (.if_icmp .ne 20, 3) := by decide +kernel
theorem dX5_rope_62 : decode cX5_rope 62 = .ok (.aload_n 0, 1) := by decide +kernel
theorem dX5_rope_63 : decode cX5_rope 63 = .ok (.getfield 10, 3) := by decide +kernel
theorem dX5_rope_66 : decode cX5_rope 66 = .ok (.aload 4, 2) := by decide +kernel
theorem dX5_rope_68 : decode cX5_rope 68 = .ok (.getfield 260, 3) := by decide +kernel
theorem dX5_rope_71 : decode cX5_rope 71 = .ok (.iload_n 2, 1) := by decide +kernel
theorem dX5_rope_72 : decode cX5_rope 72 = .ok (.iaload, 1) := by decide +kernel
theorem dX5_rope_73 : decode cX5_rope 73 = .ok (.aload 4, 2) := by decide +kernel
theorem dX5_rope_75 : decode cX5_rope 75 = .ok (.invokevirtual 157, 3) := by decide +kernel
theorem dX5_rope_78 : decode cX5_rope 78 = .ok (.ireturn, 1) := by decide +kernel
theorem dX5_rope_79 : decode cX5_rope 79 = .ok (.aload_n 0, 1) := by decide +kernel
theorem dX5_rope_80 : decode cX5_rope 80 = .ok (.getfield 10, 3) := by decide +kernel
theorem dX5_rope_83 : decode cX5_rope 83 = .ok (.aload 4, 2) := by decide +kernel
theorem dX5_rope_85 : decode cX5_rope 85 = .ok (.iload_n 2, 1) := by decide +kernel
theorem dX5_rope_86 : decode cX5_rope 86 = .ok (.invokevirtual 264, 3) := by decide +kernel
theorem dX5_rope_89 : decode cX5_rope 89 = .ok (.ireturn, 1) := by decide +kernel
theorem dX5_thickness_0 : decode cX5_thickness 0 = .ok (.aload_n 0, 1) := by decide +kernel
theorem dX5_thickness_1 : decode cX5_thickness 1 = .ok (.getfield 10, 3) := by decide +kernel
theorem dX5_thickness_4 : decode cX5_thickness 4 = .ok (.iload_n 1, 1) := by decide +kernel
theorem dX5_thickness_5 : decode cX5_thickness 5 = .ok (.invokevirtual 267, 3) := by decide +kernel
theorem dX5_thickness_8 : decode cX5_thickness 8 = .ok (.ifCond .eq 15, 3) := by decide +kernel
theorem dX5_thickness_11 : decode cX5_thickness 11 = .ok (.aload_n 0, 1) := by decide +kernel
theorem dX5_thickness_12 : decode cX5_thickness 12 = .ok (.getfield 10, 3) := by decide +kernel
theorem dX5_thickness_15 : decode cX5_thickness 15 = .ok (.getfield 80, 3) := by decide +kernel
theorem dX5_thickness_18 : decode cX5_thickness 18 = .ok (.iload_n 1, 1) := by decide +kernel
theorem dX5_thickness_19 : decode cX5_thickness 19 = .ok (.daload, 1) := by decide +kernel
theorem dX5_thickness_20 : decode cX5_thickness 20 = .ok (.goto 6, 3) := by decide +kernel
theorem dX5_thickness_23 : decode cX5_thickness 23 = .ok (.invokestatic 270, 3) := by decide +kernel
theorem dX5_thickness_26 : decode cX5_thickness 26 = .ok (.dreturn, 1) := by decide +kernel
theorem dX5_foretold_0 : decode cX5_foretold 0 = .ok (.aload_n 0, 1) := by decide +kernel
theorem dX5_foretold_1 : decode cX5_foretold 1 = .ok (.getfield 10, 3) := by decide +kernel
theorem dX5_foretold_4 : decode cX5_foretold 4 = .ok (.iload_n 1, 1) := by decide +kernel
theorem dX5_foretold_5 : decode cX5_foretold 5 = .ok (.invokevirtual 267, 3) := by decide +kernel
theorem dX5_foretold_8 : decode cX5_foretold 8 = .ok (.ifCond .eq 13, 3) := by decide +kernel
theorem dX5_foretold_11 : decode cX5_foretold 11 = .ok (.iload_n 2, 1) := by decide +kernel
theorem dX5_foretold_12 : decode cX5_foretold 12 = .ok (.ifCond .lt 9, 3) := by decide +kernel
theorem dX5_foretold_15 : decode cX5_foretold 15 = .ok (.iload_n 2, 1) := by decide +kernel
theorem dX5_foretold_16 : decode cX5_foretold 16 = .ok (.bipush 30, 2) := by decide +kernel
theorem dX5_foretold_18 : decode cX5_foretold 18 = .ok (.if_icmp .le 7, 3) := by decide +kernel
theorem dX5_foretold_21 : decode cX5_foretold 21 = .ok (.invokestatic 270, 3) := by decide +kernel
theorem dX5_foretold_24 : decode cX5_foretold 24 = .ok (.dreturn, 1) := by decide +kernel
theorem dX5_foretold_25 : decode cX5_foretold 25 = .ok (.aload_n 0, 1) := by decide +kernel
theorem dX5_foretold_26 : decode cX5_foretold 26 = .ok (.getfield 10, 3) := by decide +kernel
theorem dX5_foretold_29 : decode cX5_foretold 29 = .ok (.getfield 80, 3) := by decide +kernel
theorem dX5_foretold_32 : decode cX5_foretold 32 = .ok (.iload_n 1, 1) := by decide +kernel
theorem dX5_foretold_33 : decode cX5_foretold 33 = .ok (.daload, 1) := by decide +kernel
theorem dX5_foretold_34 : decode cX5_foretold 34 = .ok (.dstore_n 3, 1) := by decide +kernel
theorem dX5_foretold_35 : decode cX5_foretold 35 = .ok (.iconst 0, 1) := by decide +kernel
theorem dX5_foretold_36 : decode cX5_foretold 36 = .ok (.istore 5, 2) := by decide +kernel
theorem dX5_foretold_38 : decode cX5_foretold 38 = .ok (.iload 5, 2) := by decide +kernel
theorem dX5_foretold_40 : decode cX5_foretold 40 = .ok (.iload_n 2, 1) := by decide +kernel
theorem dX5_foretold_41 : decode cX5_foretold 41 = .ok (.if_icmp .ge 18, 3) := by decide +kernel
theorem dX5_foretold_44 : decode cX5_foretold 44 = .ok (.aload_n 0, 1) := by decide +kernel
theorem dX5_foretold_45 : decode cX5_foretold 45 = .ok (.getfield 10, 3) := by decide +kernel
theorem dX5_foretold_48 : decode cX5_foretold 48 = .ok (.dload_n 3, 1) := by decide +kernel
theorem dX5_foretold_49 : decode cX5_foretold 49 = .ok (.invokevirtual 274, 3) := by decide +kernel
theorem dX5_foretold_52 : decode cX5_foretold 52 = .ok (.dstore_n 3, 1) := by decide +kernel
theorem dX5_foretold_53 : decode cX5_foretold 53 = .ok (.iinc 5 1, 3) := by decide +kernel
theorem dX5_foretold_56 : decode cX5_foretold 56 = .ok (.goto (-18), 3) := by decide +kernel
theorem dX5_foretold_59 : decode cX5_foretold 59 = .ok (.dload_n 3, 1) := by decide +kernel
theorem dX5_foretold_60 : decode cX5_foretold 60 = .ok (.dreturn, 1) := by decide +kernel
theorem dX5_needed_0 : decode cX5_needed 0 = .ok (.aload_n 0, 1) := by decide +kernel
theorem dX5_needed_1 : decode cX5_needed 1 = .ok (.getfield 10, 3) := by decide +kernel
theorem dX5_needed_4 : decode cX5_needed 4 = .ok (.iload_n 1, 1) := by decide +kernel
theorem dX5_needed_5 : decode cX5_needed 5 = .ok (.invokevirtual 120, 3) := by decide +kernel
theorem dX5_needed_8 : decode cX5_needed 8 = .ok (.astore_n 2, 1) := by decide +kernel
theorem dX5_needed_9 : decode cX5_needed 9 = .ok (.aload_n 2, 1) := by decide +kernel
theorem dX5_needed_10 : decode cX5_needed 10 = .ok (.ifnonnull 9, 3) := by decide +kernel
theorem dX5_needed_13 : decode cX5_needed 13 = .ok (.invokestatic 270, 3) := by decide +kernel
theorem dX5_needed_16 : decode cX5_needed 16 = .ok (.goto 11, 3) := by decide +kernel
theorem dX5_needed_19 : decode cX5_needed 19 = .ok (.aload_n 0, 1) := by decide +kernel
theorem dX5_needed_20 : decode cX5_needed 20 = .ok (.getfield 10, 3) := by decide +kernel
theorem dX5_needed_23 : decode cX5_needed 23 = .ok (.aload_n 2, 1) := by decide +kernel
theorem dX5_needed_24 : decode cX5_needed 24 = .ok (.invokevirtual 278, 3) := by decide +kernel
theorem dX5_needed_27 : decode cX5_needed 27 = .ok (.dreturn, 1) := by decide +kernel
theorem dX5_holds_0 : decode cX5_holds 0 = .ok (.aload_n 0, 1) := by decide +kernel
theorem dX5_holds_1 : decode cX5_holds 1 = .ok (.getfield 10, 3) := by decide +kernel
theorem dX5_holds_4 : decode cX5_holds 4 = .ok (.iload_n 1, 1) := by decide +kernel
theorem dX5_holds_5 : decode cX5_holds 5 = .ok (.invokevirtual 120, 3) := by decide +kernel
theorem dX5_holds_8 : decode cX5_holds 8 = .ok (.astore_n 3, 1) := by decide +kernel
theorem dX5_holds_9 : decode cX5_holds 9 = .ok (.aload_n 3, 1) := by decide +kernel
theorem dX5_holds_10 : decode cX5_holds 10 = .ok (.ifnull 14, 3) := by decide +kernel
theorem dX5_holds_13 : decode cX5_holds 13 = .ok (.aload_n 0, 1) := by decide +kernel
theorem dX5_holds_14 : decode cX5_holds 14 = .ok (.getfield 10, 3) := by decide +kernel
theorem dX5_holds_17 : decode cX5_holds 17 = .ok (.iload_n 2, 1) := by decide +kernel
theorem dX5_holds_18 : decode cX5_holds 18 = .ok (.invokevirtual 267, 3) := by decide +kernel
theorem dX5_holds_21 : decode cX5_holds 21 = .ok (.ifCond .ne 5, 3) := by decide +kernel
theorem dX5_holds_24 : decode cX5_holds 24 = .ok (.iconst (-1), 1) := by decide +kernel
theorem dX5_holds_25 : decode cX5_holds 25 = .ok (.ireturn, 1) := by decide +kernel
theorem dX5_holds_26 : decode cX5_holds 26 = .ok (.aload_n 0, 1) := by decide +kernel
theorem dX5_holds_27 : decode cX5_holds 27 = .ok (.getfield 10, 3) := by decide +kernel
theorem dX5_holds_30 : decode cX5_holds 30 = .ok (.getfield 80, 3) := by decide +kernel
theorem dX5_holds_33 : decode cX5_holds 33 = .ok (.iload_n 2, 1) := by decide +kernel
theorem dX5_holds_34 : decode cX5_holds 34 = .ok (.daload, 1) := by decide +kernel
theorem dX5_holds_35 : decode cX5_holds 35 = .ok (.aload_n 0, 1) := by decide +kernel
theorem dX5_holds_36 : decode cX5_holds 36 = .ok (.getfield 10, 3) := by decide +kernel
theorem dX5_holds_39 : decode cX5_holds 39 = .ok (.aload_n 3, 1) := by decide +kernel
theorem dX5_holds_40 : decode cX5_holds 40 = .ok (.invokevirtual 278, 3) := by decide +kernel
theorem dX5_holds_43 : decode cX5_holds 43 = .ok (.dcmp .l, 1) := by decide +kernel
theorem dX5_holds_44 : decode cX5_holds 44 = .ok (.ifCond .lt 7, 3) := by decide +kernel
theorem dX5_holds_47 : decode cX5_holds 47 = .ok (.iconst 1, 1) := by decide +kernel
theorem dX5_holds_48 : decode cX5_holds 48 = .ok (.goto 4, 3) := by decide +kernel
theorem dX5_holds_51 : decode cX5_holds 51 = .ok (.iconst 0, 1) := by decide +kernel
theorem dX5_holds_52 : decode cX5_holds 52 = .ok (.ireturn, 1) := by decide +kernel
theorem dX5_bestGuide_0 : decode cX5_bestGuide 0 = .ok (.aload_n 0, 1) := by decide +kernel
theorem dX5_bestGuide_1 : decode cX5_bestGuide 1 = .ok (.getfield 10, 3) := by decide +kernel
theorem dX5_bestGuide_4 : decode cX5_bestGuide 4 = .ok (.iload_n 1, 1) := by decide +kernel
theorem dX5_bestGuide_5 : decode cX5_bestGuide 5 = .ok (.invokevirtual 120, 3) := by decide +kernel
theorem dX5_bestGuide_8 : decode cX5_bestGuide 8 = .ok (.astore_n 2, 1) := by decide +kernel
theorem dX5_bestGuide_9 : decode cX5_bestGuide 9 = .ok (.aload_n 2, 1) := by decide +kernel
theorem dX5_bestGuide_10 : decode cX5_bestGuide 10 = .ok (.ifnonnull 5, 3) := by decide +kernel
theorem dX5_bestGuide_13 : decode cX5_bestGuide 13 = .ok (.iconst (-1), 1) := by decide +kernel
theorem dX5_bestGuide_14 : decode cX5_bestGuide 14 = .ok (.ireturn, 1) := by decide +kernel
theorem dX5_bestGuide_15 : decode cX5_bestGuide 15 = .ok (.aload_n 2, 1) := by decide +kernel
theorem dX5_bestGuide_16 : decode cX5_bestGuide 16 = .ok (.getfield 151, 3) := by decide +kernel
theorem dX5_bestGuide_19 : decode cX5_bestGuide 19 = .ok (.iconst 4, 1) := by decide +kernel
theorem dX5_bestGuide_20 : decode cX5_bestGuide 20 = .ok (.if_icmp .lt 6, 3) := by decide +kernel
theorem dX5_bestGuide_23 : decode cX5_bestGuide 23 = .ok (.bipush (-5), 2) := by decide +kernel
theorem dX5_bestGuide_25 : decode cX5_bestGuide 25 = .ok (.ireturn, 1) := by decide +kernel
theorem dX5_bestGuide_26 : decode cX5_bestGuide 26 = .ok (.bipush (-5), 2) := by decide +kernel
theorem dX5_bestGuide_28 : decode cX5_bestGuide 28 = .ok (.istore_n 3, 1) := by decide +kernel
theorem dX5_bestGuide_29 : decode cX5_bestGuide 29 = .ok (.iconst 0, 1) := by decide +kernel
theorem dX5_bestGuide_30 : decode cX5_bestGuide 30 = .ok (.istore 4, 2) := by decide +kernel
theorem dX5_bestGuide_32 : decode cX5_bestGuide 32 = .ok (.iconst 0, 1) := by decide +kernel
theorem dX5_bestGuide_33 : decode cX5_bestGuide 33 = .ok (.istore 5, 2) := by decide +kernel
theorem dX5_bestGuide_35 : decode cX5_bestGuide 35 = .ok (.iload 5, 2) := by decide +kernel
theorem dX5_bestGuide_37 : decode cX5_bestGuide 37 = .ok (.aload_n 0, 1) := by decide +kernel
theorem dX5_bestGuide_38 : decode cX5_bestGuide 38 = .ok (.getfield 10, 3) := by decide +kernel
theorem dX5_bestGuide_41 : decode cX5_bestGuide 41 = .ok (.getfield 40, 3) := by decide +kernel
theorem dX5_bestGuide_44 : decode cX5_bestGuide 44 = .ok (.if_icmp .ge 52, 3) := by decide +kernel
theorem dX5_bestGuide_47 : decode cX5_bestGuide 47 = .ok (.aload_n 0, 1) := by decide +kernel
theorem dX5_bestGuide_48 : decode cX5_bestGuide 48 = .ok (.getfield 10, 3) := by decide +kernel
theorem dX5_bestGuide_51 : decode cX5_bestGuide 51 = .ok (.iload 5, 2) := by decide +kernel
theorem dX5_bestGuide_53 : decode cX5_bestGuide 53 = .ok (.aload_n 2, 1) := by decide +kernel
theorem dX5_bestGuide_54 : decode cX5_bestGuide 54 = .ok (.invokevirtual 147, 3) := by decide +kernel
theorem dX5_bestGuide_57 : decode cX5_bestGuide 57 = .ok (.ifCond .eq 33, 3) := by decide +kernel
theorem dX5_bestGuide_60 : decode cX5_bestGuide 60 = .ok (.aload_n 0, 1) := by decide +kernel
theorem dX5_bestGuide_61 : decode cX5_bestGuide 61 = .ok (.getfield 10, 3) := by decide +kernel
theorem dX5_bestGuide_64 : decode cX5_bestGuide 64 = .ok (.iload 5, 2) := by decide +kernel
theorem dX5_bestGuide_66 : decode cX5_bestGuide 66 = .ok (.aload_n 2, 1) := by decide +kernel
theorem dX5_bestGuide_67 : decode cX5_bestGuide 67 = .ok (.invokevirtual 157, 3) := by decide +kernel
theorem dX5_bestGuide_70 : decode cX5_bestGuide 70 = .ok (.iload 4, 2) := by decide +kernel
theorem dX5_bestGuide_72 : decode cX5_bestGuide 72 = .ok (.if_icmp .le 18, 3) := by decide +kernel
theorem dX5_bestGuide_75 : decode cX5_bestGuide 75 = .ok (.iload 5, 2) := by decide +kernel
theorem dX5_bestGuide_77 : decode cX5_bestGuide 77 = .ok (.istore_n 3, 1) := by decide +kernel
theorem dX5_bestGuide_78 : decode cX5_bestGuide 78 = .ok (.aload_n 0, 1) := by decide +kernel
theorem dX5_bestGuide_79 : decode cX5_bestGuide 79 = .ok (.getfield 10, 3) := by decide +kernel
theorem dX5_bestGuide_82 : decode cX5_bestGuide 82 = .ok (.iload 5, 2) := by decide +kernel
theorem dX5_bestGuide_84 : decode cX5_bestGuide 84 = .ok (.aload_n 2, 1) := by decide +kernel
theorem dX5_bestGuide_85 : decode cX5_bestGuide 85 = .ok (.invokevirtual 157, 3) := by decide +kernel
theorem dX5_bestGuide_88 : decode cX5_bestGuide 88 = .ok (.istore 4, 2) := by decide +kernel
theorem dX5_bestGuide_90 : decode cX5_bestGuide 90 = .ok (.iinc 5 1, 3) := by decide +kernel
theorem dX5_bestGuide_93 : decode cX5_bestGuide 93 = .ok (.goto (-58), 3) := by decide +kernel
theorem dX5_bestGuide_96 : decode cX5_bestGuide 96 = .ok (.iload_n 3, 1) := by decide +kernel
theorem dX5_bestGuide_97 : decode cX5_bestGuide 97 = .ok (.ireturn, 1) := by decide +kernel
theorem dX5_takes_0 : decode cX5_takes 0 = .ok (.aload_n 0, 1) := by decide +kernel
theorem dX5_takes_1 : decode cX5_takes 1 = .ok (.getfield 10, 3) := by decide +kernel
theorem dX5_takes_4 : decode cX5_takes 4 = .ok (.iload_n 2, 1) := by decide +kernel
theorem dX5_takes_5 : decode cX5_takes 5 = .ok (.invokevirtual 58, 3) := by decide +kernel
theorem dX5_takes_8 : decode cX5_takes 8 = .ok (.astore_n 3, 1) := by decide +kernel
theorem dX5_takes_9 : decode cX5_takes 9 = .ok (.aload_n 3, 1) := by decide +kernel
theorem dX5_takes_10 : decode cX5_takes 10 = .ok (.ifnonnull 5, 3) := by decide +kernel
theorem dX5_takes_13 : decode cX5_takes 13 = .ok (.iconst (-1), 1) := by decide +kernel
theorem dX5_takes_14 : decode cX5_takes 14 = .ok (.ireturn, 1) := by decide +kernel
theorem dX5_takes_15 : decode cX5_takes 15 = .ok (.iload_n 1, 1) := by decide +kernel
theorem dX5_takes_16 : decode cX5_takes 16 = .ok (.invokestatic 33, 3) := by decide +kernel
theorem dX5_takes_19 : decode cX5_takes 19 = .ok (.ifCond .ne 6, 3) := by decide +kernel
theorem dX5_takes_22 : decode cX5_takes 22 = .ok (.bipush (-2), 2) := by decide +kernel
theorem dX5_takes_24 : decode cX5_takes 24 = .ok (.ireturn, 1) := by decide +kernel
theorem dX5_takes_25 : decode cX5_takes 25 = .ok (.aload_n 3, 1) := by decide +kernel
theorem dX5_takes_26 : decode cX5_takes 26 = .ok (.getfield 62, 3) := by decide +kernel
theorem dX5_takes_29 : decode cX5_takes 29 = .ok (.iload_n 1, 1) := by decide +kernel
theorem dX5_takes_30 : decode cX5_takes 30 = .ok (.if_icmp .ne 7, 3) := by decide +kernel
theorem dX5_takes_33 : decode cX5_takes 33 = .ok (.iconst 1, 1) := by decide +kernel
theorem dX5_takes_34 : decode cX5_takes 34 = .ok (.goto 4, 3) := by decide +kernel
theorem dX5_takes_37 : decode cX5_takes 37 = .ok (.iconst 0, 1) := by decide +kernel
theorem dX5_takes_38 : decode cX5_takes 38 = .ok (.ireturn, 1) := by decide +kernel
theorem dX5_count_0 : decode cX5_count 0 = .ok (.iload_n 1, 1) := by decide +kernel
theorem dX5_count_1 : decode cX5_count 1 = .ok (.tableswitch 175 0 12 #[67, 75, 83, 91, 99, 108, 117, 126, 135, 143, 151, 159, 167], 67) := by decide +kernel
theorem dX5_count_68 : decode cX5_count 68 = .ok (.aload_n 0, 1) := by decide +kernel
theorem dX5_count_69 : decode cX5_count 69 = .ok (.getfield 10, 3) := by decide +kernel
theorem dX5_count_72 : decode cX5_count 72 = .ok (.getfield 100, 3) := by decide +kernel
theorem dX5_count_75 : decode cX5_count 75 = .ok (.ireturn, 1) := by decide +kernel
theorem dX5_count_76 : decode cX5_count 76 = .ok (.aload_n 0, 1) := by decide +kernel
theorem dX5_count_77 : decode cX5_count 77 = .ok (.getfield 10, 3) := by decide +kernel
theorem dX5_count_80 : decode cX5_count 80 = .ok (.getfield 40, 3) := by decide +kernel
theorem dX5_count_83 : decode cX5_count 83 = .ok (.ireturn, 1) := by decide +kernel
theorem dX5_count_84 : decode cX5_count 84 = .ok (.aload_n 0, 1) := by decide +kernel
theorem dX5_count_85 : decode cX5_count 85 = .ok (.getfield 10, 3) := by decide +kernel
theorem dX5_count_88 : decode cX5_count 88 = .ok (.getfield 77, 3) := by decide +kernel
theorem dX5_count_91 : decode cX5_count 91 = .ok (.ireturn, 1) := by decide +kernel
theorem dX5_count_92 : decode cX5_count 92 = .ok (.aload_n 0, 1) := by decide +kernel
theorem dX5_count_93 : decode cX5_count 93 = .ok (.getfield 10, 3) := by decide +kernel
theorem dX5_count_96 : decode cX5_count 96 = .ok (.getfield 108, 3) := by decide +kernel
theorem dX5_count_99 : decode cX5_count 99 = .ok (.ireturn, 1) := by decide +kernel
theorem dX5_count_100 : decode cX5_count 100 = .ok (.aload_n 0, 1) := by decide +kernel
theorem dX5_count_101 : decode cX5_count 101 = .ok (.getfield 10, 3) := by decide +kernel
theorem dX5_count_104 : decode cX5_count 104 = .ok (.iconst 0, 1) := by decide +kernel
theorem dX5_count_105 : decode cX5_count 105 = .ok (.invokevirtual 282, 3) := by decide +kernel
theorem dX5_count_108 : decode cX5_count 108 = .ok (.ireturn, 1) := by decide +kernel
theorem dX5_count_109 : decode cX5_count 109 = .ok (.aload_n 0, 1) := by decide +kernel
theorem dX5_count_110 : decode cX5_count 110 = .ok (.getfield 10, 3) := by decide +kernel
theorem dX5_count_113 : decode cX5_count 113 = .ok (.iconst 1, 1) := by decide +kernel
theorem dX5_count_114 : decode cX5_count 114 = .ok (.invokevirtual 282, 3) := by decide +kernel
theorem dX5_count_117 : decode cX5_count 117 = .ok (.ireturn, 1) := by decide +kernel
theorem dX5_count_118 : decode cX5_count 118 = .ok (.aload_n 0, 1) := by decide +kernel
theorem dX5_count_119 : decode cX5_count 119 = .ok (.getfield 10, 3) := by decide +kernel
theorem dX5_count_122 : decode cX5_count 122 = .ok (.iconst 2, 1) := by decide +kernel
theorem dX5_count_123 : decode cX5_count 123 = .ok (.invokevirtual 282, 3) := by decide +kernel
theorem dX5_count_126 : decode cX5_count 126 = .ok (.ireturn, 1) := by decide +kernel
theorem dX5_count_127 : decode cX5_count 127 = .ok (.aload_n 0, 1) := by decide +kernel
theorem dX5_count_128 : decode cX5_count 128 = .ok (.getfield 10, 3) := by decide +kernel
theorem dX5_count_131 : decode cX5_count 131 = .ok (.iconst 3, 1) := by decide +kernel
theorem dX5_count_132 : decode cX5_count 132 = .ok (.invokevirtual 282, 3) := by decide +kernel
theorem dX5_count_135 : decode cX5_count 135 = .ok (.ireturn, 1) := by decide +kernel
theorem dX5_count_136 : decode cX5_count 136 = .ok (.aload_n 0, 1) := by decide +kernel
theorem dX5_count_137 : decode cX5_count 137 = .ok (.getfield 10, 3) := by decide +kernel
theorem dX5_count_140 : decode cX5_count 140 = .ok (.invokevirtual 285, 3) := by decide +kernel
theorem dX5_count_143 : decode cX5_count 143 = .ok (.ireturn, 1) := by decide +kernel
theorem dX5_count_144 : decode cX5_count 144 = .ok (.aload_n 0, 1) := by decide +kernel
theorem dX5_count_145 : decode cX5_count 145 = .ok (.getfield 10, 3) := by decide +kernel
theorem dX5_count_148 : decode cX5_count 148 = .ok (.getfield 288, 3) := by decide +kernel
theorem dX5_count_151 : decode cX5_count 151 = .ok (.ireturn, 1) := by decide +kernel
theorem dX5_count_152 : decode cX5_count 152 = .ok (.aload_n 0, 1) := by decide +kernel
theorem dX5_count_153 : decode cX5_count 153 = .ok (.getfield 10, 3) := by decide +kernel
theorem dX5_count_156 : decode cX5_count 156 = .ok (.invokevirtual 291, 3) := by decide +kernel
theorem dX5_count_159 : decode cX5_count 159 = .ok (.ireturn, 1) := by decide +kernel
theorem dX5_count_160 : decode cX5_count 160 = .ok (.aload_n 0, 1) := by decide +kernel
theorem dX5_count_161 : decode cX5_count 161 = .ok (.getfield 22, 3) := by decide +kernel
theorem dX5_count_164 : decode cX5_count 164 = .ok (.getfield 221, 3) := by decide +kernel
theorem dX5_count_167 : decode cX5_count 167 = .ok (.ireturn, 1) := by decide +kernel
theorem dX5_count_168 : decode cX5_count 168 = .ok (.aload_n 0, 1) := by decide +kernel
theorem dX5_count_169 : decode cX5_count 169 = .ok (.getfield 29, 3) := by decide +kernel
theorem dX5_count_172 : decode cX5_count 172 = .ok (.getfield 186, 3) := by decide +kernel
theorem dX5_count_175 : decode cX5_count 175 = .ok (.ireturn, 1) := by decide +kernel
theorem dX5_count_176 : decode cX5_count 176 = .ok (.bipush (-2), 2) := by decide +kernel
theorem dX5_count_178 : decode cX5_count 178 = .ok (.ireturn, 1) := by decide +kernel
theorem dX5_temperature_0 : decode cX5_temperature 0 = .ok (.aload_n 0, 1) := by decide +kernel
theorem dX5_temperature_1 : decode cX5_temperature 1 = .ok (.getfield 10, 3) := by decide +kernel
theorem dX5_temperature_4 : decode cX5_temperature 4 = .ok (.getfield 96, 3) := by decide +kernel
theorem dX5_temperature_7 : decode cX5_temperature 7 = .ok (.lreturn, 1) := by decide +kernel
theorem dX5_isClass_0 : decode cX5_isClass 0 = .ok (.iload_n 0, 1) := by decide +kernel
theorem dX5_isClass_1 : decode cX5_isClass 1 = .ok (.iconst 1, 1) := by decide +kernel
theorem dX5_isClass_2 : decode cX5_isClass 2 = .ok (.if_icmp .lt 12, 3) := by decide +kernel
theorem dX5_isClass_5 : decode cX5_isClass 5 = .ok (.iload_n 0, 1) := by decide +kernel
theorem dX5_isClass_6 : decode cX5_isClass 6 = .ok (.iconst 3, 1) := by decide +kernel
theorem dX5_isClass_7 : decode cX5_isClass 7 = .ok (.if_icmp .gt 7, 3) := by decide +kernel
theorem dX5_isClass_10 : decode cX5_isClass 10 = .ok (.iconst 1, 1) := by decide +kernel
theorem dX5_isClass_11 : decode cX5_isClass 11 = .ok (.goto 4, 3) := by decide +kernel
theorem dX5_isClass_14 : decode cX5_isClass 14 = .ok (.iconst 0, 1) := by decide +kernel
theorem dX5_isClass_15 : decode cX5_isClass 15 = .ok (.ireturn, 1) := by decide +kernel
theorem dX5_isLastDay_0 : decode cX5_isLastDay 0 = .ok (.iload_n 0, 1) := by decide +kernel
theorem dX5_isLastDay_1 : decode cX5_isLastDay 1 = .ok (.ifCond .lt 14, 3) := by decide +kernel
theorem dX5_isLastDay_4 : decode cX5_isLastDay 4 = .ok (.iload_n 0, 1) := by decide +kernel
theorem dX5_isLastDay_5 : decode cX5_isLastDay 5 = .ok (.sipush 999, 3) := by decide +kernel
theorem dX5_isLastDay_8 : decode cX5_isLastDay 8 = .ok (.if_icmp .gt 7, 3) := by decide +kernel
theorem dX5_isLastDay_11 : decode cX5_isLastDay 11 = .ok (.iconst 1, 1) := by decide +kernel
theorem dX5_isLastDay_12 : decode cX5_isLastDay 12 = .ok (.goto 4, 3) := by decide +kernel
theorem dX5_isLastDay_15 : decode cX5_isLastDay 15 = .ok (.iconst 0, 1) := by decide +kernel
theorem dX5_isLastDay_16 : decode cX5_isLastDay 16 = .ok (.ireturn, 1) := by decide +kernel
theorem dX5_isGuests_0 : decode cX5_isGuests 0 = .ok (.iload_n 0, 1) := by decide +kernel
theorem dX5_isGuests_1 : decode cX5_isGuests 1 = .ok (.iconst 1, 1) := by decide +kernel
theorem dX5_isGuests_2 : decode cX5_isGuests 2 = .ok (.if_icmp .lt 13, 3) := by decide +kernel
theorem dX5_isGuests_5 : decode cX5_isGuests 5 = .ok (.iload_n 0, 1) := by decide +kernel
theorem dX5_isGuests_6 : decode cX5_isGuests 6 = .ok (.bipush 12, 2) := by decide +kernel
theorem dX5_isGuests_8 : decode cX5_isGuests 8 = .ok (.if_icmp .gt 7, 3) := by decide +kernel
theorem dX5_isGuests_11 : decode cX5_isGuests 11 = .ok (.iconst 1, 1) := by decide +kernel
theorem dX5_isGuests_12 : decode cX5_isGuests 12 = .ok (.goto 4, 3) := by decide +kernel
theorem dX5_isGuests_15 : decode cX5_isGuests 15 = .ok (.iconst 0, 1) := by decide +kernel
theorem dX5_isGuests_16 : decode cX5_isGuests 16 = .ok (.ireturn, 1) := by decide +kernel
theorem dX5_isFromZeroTo_0 : decode cX5_isFromZeroTo 0 = .ok (.lload_n 2, 1) := by decide +kernel
theorem dX5_isFromZeroTo_1 : decode cX5_isFromZeroTo 1 = .ok (.lconst 0, 1) := by decide +kernel
theorem dX5_isFromZeroTo_2 : decode cX5_isFromZeroTo 2 = .ok (.lcmp, 1) := by decide +kernel
theorem dX5_isFromZeroTo_3 : decode cX5_isFromZeroTo 3 = .ok (.ifCond .lt 13, 3) := by decide +kernel
theorem dX5_isFromZeroTo_6 : decode cX5_isFromZeroTo 6 = .ok (.lload_n 2, 1) := by decide +kernel
theorem dX5_isFromZeroTo_7 : decode cX5_isFromZeroTo 7 = .ok (.lload_n 0, 1) := by decide +kernel
theorem dX5_isFromZeroTo_8 : decode cX5_isFromZeroTo 8 = .ok (.lcmp, 1) := by decide +kernel
theorem dX5_isFromZeroTo_9 : decode cX5_isFromZeroTo 9 = .ok (.ifCond .gt 7, 3) := by decide +kernel
theorem dX5_isFromZeroTo_12 : decode cX5_isFromZeroTo 12 = .ok (.iconst 1, 1) := by decide +kernel
theorem dX5_isFromZeroTo_13 : decode cX5_isFromZeroTo 13 = .ok (.goto 4, 3) := by decide +kernel
theorem dX5_isFromZeroTo_16 : decode cX5_isFromZeroTo 16 = .ok (.iconst 0, 1) := by decide +kernel
theorem dX5_isFromZeroTo_17 : decode cX5_isFromZeroTo 17 = .ok (.ireturn, 1) := by decide +kernel
theorem dX5_isTemperature_0 : decode cX5_isTemperature 0 = .ok (.lload_n 0, 1) := by decide +kernel
theorem dX5_isTemperature_1 : decode cX5_isTemperature 1 = .ok (.lconst 0, 1) := by decide +kernel
theorem dX5_isTemperature_2 : decode cX5_isTemperature 2 = .ok (.lcmp, 1) := by decide +kernel
theorem dX5_isTemperature_3 : decode cX5_isTemperature 3 = .ok (.ifCond .ge 17, 3) := by decide +kernel
theorem dX5_isTemperature_6 : decode cX5_isTemperature 6 = .ok (.ldc2_w 294, 3) := by decide +kernel
theorem dX5_isTemperature_9 : decode cX5_isTemperature 9 = .ok (.lload_n 0, 1) := by decide +kernel
theorem dX5_isTemperature_10 : decode cX5_isTemperature 10 = .ok (.ldc2_w 296, 3) := by decide +kernel
theorem dX5_isTemperature_13 : decode cX5_isTemperature 13 = .ok (.land, 1) := by decide +kernel
theorem dX5_isTemperature_14 : decode cX5_isTemperature 14 = .ok (.invokestatic 73, 3) := by decide +kernel
theorem dX5_isTemperature_17 : decode cX5_isTemperature 17 = .ok (.goto 10, 3) := by decide +kernel
theorem dX5_isTemperature_20 : decode cX5_isTemperature 20 = .ok (.ldc2_w 298, 3) := by decide +kernel
theorem dX5_isTemperature_23 : decode cX5_isTemperature 23 = .ok (.lload_n 0, 1) := by decide +kernel
theorem dX5_isTemperature_24 : decode cX5_isTemperature 24 = .ok (.invokestatic 73, 3) := by decide +kernel
theorem dX5_isTemperature_27 : decode cX5_isTemperature 27 = .ok (.ireturn, 1) := by decide +kernel
theorem dX5_numberOf_0 : decode cX5_numberOf 0 = .ok (.lload_n 0, 1) := by decide +kernel
theorem dX5_numberOf_1 : decode cX5_numberOf 1 = .ok (.bipush 52, 2) := by decide +kernel
theorem dX5_numberOf_3 : decode cX5_numberOf 3 = .ok (.lushr, 1) := by decide +kernel
theorem dX5_numberOf_4 : decode cX5_numberOf 4 = .ok (.l2i, 1) := by decide +kernel
theorem dX5_numberOf_5 : decode cX5_numberOf 5 = .ok (.sipush 2047, 3) := by decide +kernel
theorem dX5_numberOf_8 : decode cX5_numberOf 8 = .ok (.iand, 1) := by decide +kernel
theorem dX5_numberOf_9 : decode cX5_numberOf 9 = .ok (.istore_n 2, 1) := by decide +kernel
theorem dX5_numberOf_10 : decode cX5_numberOf 10 = .ok (.lload_n 0, 1) := by decide +kernel
theorem dX5_numberOf_11 : decode cX5_numberOf 11 = .ok (.ldc2_w 300, 3) := by decide +kernel
theorem dX5_numberOf_14 : decode cX5_numberOf 14 = .ok (.land, 1) := by decide +kernel
theorem dX5_numberOf_15 : decode cX5_numberOf 15 = .ok (.lstore_n 3, 1) := by decide +kernel
theorem dX5_numberOf_16 : decode cX5_numberOf 16 = .ok (.iload_n 2, 1) := by decide +kernel
theorem dX5_numberOf_17 : decode cX5_numberOf 17 = .ok (.ifCond .ne 17, 3) := by decide +kernel
theorem dX5_numberOf_20 : decode cX5_numberOf 20 = .ok (.lload_n 3, 1) := by decide +kernel
theorem dX5_numberOf_21 : decode cX5_numberOf 21 = .ok (.l2d, 1) := by decide +kernel
theorem dX5_numberOf_22 : decode cX5_numberOf 22 = .ok (.sipush 1074, 3) := by decide +kernel
theorem dX5_numberOf_25 : decode cX5_numberOf 25 = .ok (.invokestatic 302, 3) := by decide +kernel
theorem dX5_numberOf_28 : decode cX5_numberOf 28 = .ok (.dmul, 1) := by decide +kernel
theorem dX5_numberOf_29 : decode cX5_numberOf 29 = .ok (.dstore 5, 2) := by decide +kernel
theorem dX5_numberOf_31 : decode cX5_numberOf 31 = .ok (.goto 20, 3) := by decide +kernel
theorem dX5_numberOf_34 : decode cX5_numberOf 34 = .ok (.lload_n 3, 1) := by decide +kernel
theorem dX5_numberOf_35 : decode cX5_numberOf 35 = .ok (.ldc2_w 306, 3) := by decide +kernel
theorem dX5_numberOf_38 : decode cX5_numberOf 38 = .ok (.lor, 1) := by decide +kernel
theorem dX5_numberOf_39 : decode cX5_numberOf 39 = .ok (.l2d, 1) := by decide +kernel
theorem dX5_numberOf_40 : decode cX5_numberOf 40 = .ok (.sipush 1075, 3) := by decide +kernel
theorem dX5_numberOf_43 : decode cX5_numberOf 43 = .ok (.iload_n 2, 1) := by decide +kernel
theorem dX5_numberOf_44 : decode cX5_numberOf 44 = .ok (.isub, 1) := by decide +kernel
theorem dX5_numberOf_45 : decode cX5_numberOf 45 = .ok (.invokestatic 302, 3) := by decide +kernel
theorem dX5_numberOf_48 : decode cX5_numberOf 48 = .ok (.dmul, 1) := by decide +kernel
theorem dX5_numberOf_49 : decode cX5_numberOf 49 = .ok (.dstore 5, 2) := by decide +kernel
theorem dX5_numberOf_51 : decode cX5_numberOf 51 = .ok (.lload_n 0, 1) := by decide +kernel
theorem dX5_numberOf_52 : decode cX5_numberOf 52 = .ok (.lconst 0, 1) := by decide +kernel
theorem dX5_numberOf_53 : decode cX5_numberOf 53 = .ok (.lcmp, 1) := by decide +kernel
theorem dX5_numberOf_54 : decode cX5_numberOf 54 = .ok (.ifCond .ge 9, 3) := by decide +kernel
theorem dX5_numberOf_57 : decode cX5_numberOf 57 = .ok (.dload 5, 2) := by decide +kernel
theorem dX5_numberOf_59 : decode cX5_numberOf 59 = .ok (.dneg, 1) := by decide +kernel
theorem dX5_numberOf_60 : decode cX5_numberOf 60 = .ok (.goto 5, 3) := by decide +kernel
theorem dX5_numberOf_63 : decode cX5_numberOf 63 = .ok (.dload 5, 2) := by decide +kernel
theorem dX5_numberOf_65 : decode cX5_numberOf 65 = .ok (.dreturn, 1) := by decide +kernel
theorem dX5_halved_0 : decode cX5_halved 0 = .ok (.dconst 1, 1) := by decide +kernel
theorem dX5_halved_1 : decode cX5_halved 1 = .ok (.dstore_n 1, 1) := by decide +kernel
theorem dX5_halved_2 : decode cX5_halved 2 = .ok (.ldc2_w 308, 3) := by decide +kernel
theorem dX5_halved_5 : decode cX5_halved 5 = .ok (.dstore_n 3, 1) := by decide +kernel
theorem dX5_halved_6 : decode cX5_halved 6 = .ok (.iconst 0, 1) := by decide +kernel
theorem dX5_halved_7 : decode cX5_halved 7 = .ok (.istore 5, 2) := by decide +kernel
theorem dX5_halved_9 : decode cX5_halved 9 = .ok (.iload 5, 2) := by decide +kernel
theorem dX5_halved_11 : decode cX5_halved 11 = .ok (.bipush 11, 2) := by decide +kernel
theorem dX5_halved_13 : decode cX5_halved 13 = .ok (.if_icmp .ge 26, 3) := by decide +kernel
theorem dX5_halved_16 : decode cX5_halved 16 = .ok (.iload_n 0, 1) := by decide +kernel
theorem dX5_halved_17 : decode cX5_halved 17 = .ok (.iload 5, 2) := by decide +kernel
theorem dX5_halved_19 : decode cX5_halved 19 = .ok (.ishr, 1) := by decide +kernel
theorem dX5_halved_20 : decode cX5_halved 20 = .ok (.iconst 1, 1) := by decide +kernel
theorem dX5_halved_21 : decode cX5_halved 21 = .ok (.iand, 1) := by decide +kernel
theorem dX5_halved_22 : decode cX5_halved 22 = .ok (.ifCond .eq 7, 3) := by decide +kernel
theorem dX5_halved_25 : decode cX5_halved 25 = .ok (.dload_n 1, 1) := by decide +kernel
theorem dX5_halved_26 : decode cX5_halved 26 = .ok (.dload_n 3, 1) := by decide +kernel
theorem dX5_halved_27 : decode cX5_halved 27 = .ok (.dmul, 1) := by decide +kernel
theorem dX5_halved_28 : decode cX5_halved 28 = .ok (.dstore_n 1, 1) := by decide +kernel
theorem dX5_halved_29 : decode cX5_halved 29 = .ok (.dload_n 3, 1) := by decide +kernel
theorem dX5_halved_30 : decode cX5_halved 30 = .ok (.dload_n 3, 1) := by decide +kernel
theorem dX5_halved_31 : decode cX5_halved 31 = .ok (.dmul, 1) := by decide +kernel
theorem dX5_halved_32 : decode cX5_halved 32 = .ok (.dstore_n 3, 1) := by decide +kernel
theorem dX5_halved_33 : decode cX5_halved 33 = .ok (.iinc 5 1, 3) := by decide +kernel
theorem dX5_halved_36 : decode cX5_halved 36 = .ok (.goto (-27), 3) := by decide +kernel
theorem dX5_halved_39 : decode cX5_halved 39 = .ok (.dload_n 1, 1) := by decide +kernel
theorem dX5_halved_40 : decode cX5_halved 40 = .ok (.dreturn, 1) := by decide +kernel
theorem dX5_noNumber_0 : decode cX5_noNumber 0 = .ok (.ldc2_w 310, 3) := by decide +kernel
theorem dX5_noNumber_3 : decode cX5_noNumber 3 = .ok (.dreturn, 1) := by decide +kernel
theorem dJ0_length_8abf5_0 : decode cJ0_length_8abf5 0 = .ok (.aload_n 0, 1) := by decide +kernel
theorem dJ0_length_8abf5_1 : decode cJ0_length_8abf5 1 = .ok (.getfield 9, 3) := by decide +kernel
theorem dJ0_length_8abf5_4 : decode cJ0_length_8abf5 4 = .ok (.arraylength, 1) := by decide +kernel
theorem dJ0_length_8abf5_5 : decode cJ0_length_8abf5 5 = .ok (.aload_n 0, 1) := by decide +kernel
theorem dJ0_length_8abf5_6 : decode cJ0_length_8abf5 6 = .ok (.invokevirtual 335, 3) := by decide +kernel
theorem dJ0_length_8abf5_9 : decode cJ0_length_8abf5 9 = .ok (.ishr, 1) := by decide +kernel
theorem dJ0_length_8abf5_10 : decode cJ0_length_8abf5 10 = .ok (.ireturn, 1) := by decide +kernel
theorem dJ0_charAt_5068e_0 : decode cJ0_charAt_5068e 0 = .ok (.aload_n 0, 1) := by decide +kernel
theorem dJ0_charAt_5068e_1 : decode cJ0_charAt_5068e 1 = .ok (.invokevirtual 492, 3) := by decide +kernel
theorem dJ0_charAt_5068e_4 : decode cJ0_charAt_5068e 4 = .ok (.ifCond .eq 12, 3) := by decide +kernel
theorem dJ0_charAt_5068e_7 : decode cJ0_charAt_5068e 7 = .ok (.aload_n 0, 1) := by decide +kernel
theorem dJ0_charAt_5068e_8 : decode cJ0_charAt_5068e 8 = .ok (.getfield 9, 3) := by decide +kernel
theorem dJ0_charAt_5068e_11 : decode cJ0_charAt_5068e 11 = .ok (.iload_n 1, 1) := by decide +kernel
theorem dJ0_charAt_5068e_12 : decode cJ0_charAt_5068e 12 = .ok (.invokestatic 495, 3) := by decide +kernel
theorem dJ0_charAt_5068e_15 : decode cJ0_charAt_5068e 15 = .ok (.ireturn, 1) := by decide +kernel
theorem dJ0_charAt_5068e_16 : decode cJ0_charAt_5068e 16 = .ok (.aload_n 0, 1) := by decide +kernel
theorem dJ0_charAt_5068e_17 : decode cJ0_charAt_5068e 17 = .ok (.getfield 9, 3) := by decide +kernel
theorem dJ0_charAt_5068e_20 : decode cJ0_charAt_5068e 20 = .ok (.iload_n 1, 1) := by decide +kernel
theorem dJ0_charAt_5068e_21 : decode cJ0_charAt_5068e 21 = .ok (.invokestatic 498, 3) := by decide +kernel
theorem dJ0_charAt_5068e_24 : decode cJ0_charAt_5068e 24 = .ok (.ireturn, 1) := by decide +kernel
theorem dJ0_coder_7d493_0 : decode cJ0_coder_7d493 0 = .ok (.getstatic 38, 3) := by decide +kernel
theorem dJ0_coder_7d493_3 : decode cJ0_coder_7d493 3 = .ok (.ifCond .eq 10, 3) := by decide +kernel
theorem dJ0_coder_7d493_6 : decode cJ0_coder_7d493 6 = .ok (.aload_n 0, 1) := by decide +kernel
theorem dJ0_coder_7d493_7 : decode cJ0_coder_7d493 7 = .ok (.getfield 15, 3) := by decide +kernel
theorem dJ0_coder_7d493_10 : decode cJ0_coder_7d493 10 = .ok (.goto 4, 3) := by decide +kernel
theorem dJ0_coder_7d493_13 : decode cJ0_coder_7d493 13 = .ok (.iconst 1, 1) := by decide +kernel
theorem dJ0_coder_7d493_14 : decode cJ0_coder_7d493 14 = .ok (.ireturn, 1) := by decide +kernel
theorem dJ0_isLatin1_aae02_0 : decode cJ0_isLatin1_aae02 0 = .ok (.getstatic 38, 3) := by decide +kernel
theorem dJ0_isLatin1_aae02_3 : decode cJ0_isLatin1_aae02 3 = .ok (.ifCond .eq 14, 3) := by decide +kernel
theorem dJ0_isLatin1_aae02_6 : decode cJ0_isLatin1_aae02 6 = .ok (.aload_n 0, 1) := by decide +kernel
theorem dJ0_isLatin1_aae02_7 : decode cJ0_isLatin1_aae02 7 = .ok (.getfield 15, 3) := by decide +kernel
theorem dJ0_isLatin1_aae02_10 : decode cJ0_isLatin1_aae02 10 = .ok (.ifCond .ne 7, 3) := by decide +kernel
theorem dJ0_isLatin1_aae02_13 : decode cJ0_isLatin1_aae02 13 = .ok (.iconst 1, 1) := by decide +kernel
theorem dJ0_isLatin1_aae02_14 : decode cJ0_isLatin1_aae02 14 = .ok (.goto 4, 3) := by decide +kernel
theorem dJ0_isLatin1_aae02_17 : decode cJ0_isLatin1_aae02 17 = .ok (.iconst 0, 1) := by decide +kernel
theorem dJ0_isLatin1_aae02_18 : decode cJ0_isLatin1_aae02 18 = .ok (.ireturn, 1) := by decide +kernel
theorem dJ0_checkIndex_df160_0 : decode cJ0_checkIndex_df160 0 = .ok (.iload_n 0, 1) := by decide +kernel
theorem dJ0_checkIndex_df160_1 : decode cJ0_checkIndex_df160 1 = .ok (.iload_n 1, 1) := by decide +kernel
theorem dJ0_checkIndex_df160_2 : decode cJ0_checkIndex_df160 2 = .ok (.getstatic 1053, 3) := by decide +kernel
theorem dJ0_checkIndex_df160_5 : decode cJ0_checkIndex_df160 5 = .ok (.invokestatic 1059, 3) := by decide +kernel
theorem dJ0_checkIndex_df160_8 : decode cJ0_checkIndex_df160 8 = .ok (.pop, 1) := by decide +kernel
theorem dJ0_checkIndex_df160_9 : decode cJ0_checkIndex_df160 9 = .ok (.return_, 1) := by decide +kernel
theorem dJ1_charAt_3b067_0 : decode cJ1_charAt_3b067 0 = .ok (.iload_n 1, 1) := by decide +kernel
theorem dJ1_charAt_3b067_1 : decode cJ1_charAt_3b067 1 = .ok (.aload_n 0, 1) := by decide +kernel
theorem dJ1_charAt_3b067_2 : decode cJ1_charAt_3b067 2 = .ok (.arraylength, 1) := by decide +kernel
theorem dJ1_charAt_3b067_3 : decode cJ1_charAt_3b067 3 = .ok (.invokestatic 9, 3) := by decide +kernel
theorem dJ1_charAt_3b067_6 : decode cJ1_charAt_3b067 6 = .ok (.aload_n 0, 1) := by decide +kernel
theorem dJ1_charAt_3b067_7 : decode cJ1_charAt_3b067 7 = .ok (.iload_n 1, 1) := by decide +kernel
theorem dJ1_charAt_3b067_8 : decode cJ1_charAt_3b067 8 = .ok (.baload, 1) := by decide +kernel
theorem dJ1_charAt_3b067_9 : decode cJ1_charAt_3b067 9 = .ok (.sipush 255, 3) := by decide +kernel
theorem dJ1_charAt_3b067_12 : decode cJ1_charAt_3b067 12 = .ok (.iand, 1) := by decide +kernel
theorem dJ1_charAt_3b067_13 : decode cJ1_charAt_3b067 13 = .ok (.i2c, 1) := by decide +kernel
theorem dJ1_charAt_3b067_14 : decode cJ1_charAt_3b067 14 = .ok (.ireturn, 1) := by decide +kernel
theorem dJ2_getChar_3b067_0 : decode cJ2_getChar_3b067 0 = .ok (.getstatic 44, 3) := by decide +kernel
theorem dJ2_getChar_3b067_3 : decode cJ2_getChar_3b067 3 = .ok (.ifCond .ne 25, 3) := by decide +kernel
theorem dJ2_getChar_3b067_6 : decode cJ2_getChar_3b067 6 = .ok (.iload_n 1, 1) := by decide +kernel
theorem dJ2_getChar_3b067_7 : decode cJ2_getChar_3b067 7 = .ok (.ifCond .lt 11, 3) := by decide +kernel
theorem dJ2_getChar_3b067_10 : decode cJ2_getChar_3b067 10 = .ok (.iload_n 1, 1) := by decide +kernel
theorem dJ2_getChar_3b067_11 : decode cJ2_getChar_3b067 11 = .ok (.aload_n 0, 1) := by decide +kernel
theorem dJ2_getChar_3b067_12 : decode cJ2_getChar_3b067 12 = .ok (.invokestatic 48, 3) := by decide +kernel
theorem dJ2_getChar_3b067_15 : decode cJ2_getChar_3b067 15 = .ok (.if_icmp .lt 13, 3) := by decide +kernel
theorem dJ2_getChar_3b067_18 : decode cJ2_getChar_3b067 18 = .ok (.new 52, 3) := by decide +kernel
theorem dJ2_getChar_3b067_21 : decode cJ2_getChar_3b067 21 = .ok (.dup, 1) := by decide +kernel
theorem dJ2_getChar_3b067_22 : decode cJ2_getChar_3b067 22 = .ok (.ldc 54, 2) := by decide +kernel
theorem dJ2_getChar_3b067_24 : decode cJ2_getChar_3b067 24 = .ok (.invokespecial 56, 3) := by decide +kernel
theorem dJ2_getChar_3b067_27 : decode cJ2_getChar_3b067 27 = .ok (.athrow, 1) := by decide +kernel
theorem dJ2_getChar_3b067_28 : decode cJ2_getChar_3b067 28 = .ok (.iload_n 1, 1) := by decide +kernel
theorem dJ2_getChar_3b067_29 : decode cJ2_getChar_3b067 29 = .ok (.iconst 1, 1) := by decide +kernel
theorem dJ2_getChar_3b067_30 : decode cJ2_getChar_3b067 30 = .ok (.ishl, 1) := by decide +kernel
theorem dJ2_getChar_3b067_31 : decode cJ2_getChar_3b067 31 = .ok (.istore_n 1, 1) := by decide +kernel
theorem dJ2_getChar_3b067_32 : decode cJ2_getChar_3b067 32 = .ok (.aload_n 0, 1) := by decide +kernel
theorem dJ2_getChar_3b067_33 : decode cJ2_getChar_3b067 33 = .ok (.iload_n 1, 1) := by decide +kernel
theorem dJ2_getChar_3b067_34 : decode cJ2_getChar_3b067 34 = .ok (.iinc 1 1, 3) := by decide +kernel
theorem dJ2_getChar_3b067_37 : decode cJ2_getChar_3b067 37 = .ok (.baload, 1) := by decide +kernel
theorem dJ2_getChar_3b067_38 : decode cJ2_getChar_3b067 38 = .ok (.sipush 255, 3) := by decide +kernel
theorem dJ2_getChar_3b067_41 : decode cJ2_getChar_3b067 41 = .ok (.iand, 1) := by decide +kernel
theorem dJ2_getChar_3b067_42 : decode cJ2_getChar_3b067 42 = .ok (.getstatic 59, 3) := by decide +kernel
theorem dJ2_getChar_3b067_45 : decode cJ2_getChar_3b067 45 = .ok (.ishl, 1) := by decide +kernel
theorem dJ2_getChar_3b067_46 : decode cJ2_getChar_3b067 46 = .ok (.aload_n 0, 1) := by decide +kernel
theorem dJ2_getChar_3b067_47 : decode cJ2_getChar_3b067 47 = .ok (.iload_n 1, 1) := by decide +kernel
theorem dJ2_getChar_3b067_48 : decode cJ2_getChar_3b067 48 = .ok (.baload, 1) := by decide +kernel
theorem dJ2_getChar_3b067_49 : decode cJ2_getChar_3b067 49 = .ok (.sipush 255, 3) := by decide +kernel
theorem dJ2_getChar_3b067_52 : decode cJ2_getChar_3b067 52 = .ok (.iand, 1) := by decide +kernel
theorem dJ2_getChar_3b067_53 : decode cJ2_getChar_3b067 53 = .ok (.getstatic 63, 3) := by decide +kernel
theorem dJ2_getChar_3b067_56 : decode cJ2_getChar_3b067 56 = .ok (.ishl, 1) := by decide +kernel
theorem dJ2_getChar_3b067_57 : decode cJ2_getChar_3b067 57 = .ok (.ior, 1) := by decide +kernel
theorem dJ2_getChar_3b067_58 : decode cJ2_getChar_3b067 58 = .ok (.i2c, 1) := by decide +kernel
theorem dJ2_getChar_3b067_59 : decode cJ2_getChar_3b067 59 = .ok (.ireturn, 1) := by decide +kernel
theorem dJ2_length_9d52b_0 : decode cJ2_length_9d52b 0 = .ok (.aload_n 0, 1) := by decide +kernel
theorem dJ2_length_9d52b_1 : decode cJ2_length_9d52b 1 = .ok (.arraylength, 1) := by decide +kernel
theorem dJ2_length_9d52b_2 : decode cJ2_length_9d52b 2 = .ok (.iconst 1, 1) := by decide +kernel
theorem dJ2_length_9d52b_3 : decode cJ2_length_9d52b 3 = .ok (.ishr, 1) := by decide +kernel
theorem dJ2_length_9d52b_4 : decode cJ2_length_9d52b 4 = .ok (.ireturn, 1) := by decide +kernel
theorem dJ2_charAt_3b067_0 : decode cJ2_charAt_3b067 0 = .ok (.iload_n 1, 1) := by decide +kernel
theorem dJ2_charAt_3b067_1 : decode cJ2_charAt_3b067 1 = .ok (.aload_n 0, 1) := by decide +kernel
theorem dJ2_charAt_3b067_2 : decode cJ2_charAt_3b067 2 = .ok (.invokestatic 67, 3) := by decide +kernel
theorem dJ2_charAt_3b067_5 : decode cJ2_charAt_3b067 5 = .ok (.aload_n 0, 1) := by decide +kernel
theorem dJ2_charAt_3b067_6 : decode cJ2_charAt_3b067 6 = .ok (.iload_n 1, 1) := by decide +kernel
theorem dJ2_charAt_3b067_7 : decode cJ2_charAt_3b067 7 = .ok (.invokestatic 71, 3) := by decide +kernel
theorem dJ2_charAt_3b067_10 : decode cJ2_charAt_3b067 10 = .ok (.ireturn, 1) := by decide +kernel
theorem dJ2_checkIndex_2214a_0 : decode cJ2_checkIndex_2214a 0 = .ok (.iload_n 0, 1) := by decide +kernel
theorem dJ2_checkIndex_2214a_1 : decode cJ2_checkIndex_2214a 1 = .ok (.aload_n 1, 1) := by decide +kernel
theorem dJ2_checkIndex_2214a_2 : decode cJ2_checkIndex_2214a 2 = .ok (.invokestatic 48, 3) := by decide +kernel
theorem dJ2_checkIndex_2214a_5 : decode cJ2_checkIndex_2214a 5 = .ok (.invokestatic 414, 3) := by decide +kernel
theorem dJ2_checkIndex_2214a_8 : decode cJ2_checkIndex_2214a 8 = .ok (.return_, 1) := by decide +kernel
theorem dJ3_checkIndex_8e157_0 : decode cJ3_checkIndex_8e157 0 = .ok (.iload_n 0, 1) := by decide +kernel
theorem dJ3_checkIndex_8e157_1 : decode cJ3_checkIndex_8e157 1 = .ok (.ifCond .lt 8, 3) := by decide +kernel
theorem dJ3_checkIndex_8e157_4 : decode cJ3_checkIndex_8e157 4 = .ok (.iload_n 0, 1) := by decide +kernel
theorem dJ3_checkIndex_8e157_5 : decode cJ3_checkIndex_8e157 5 = .ok (.iload_n 1, 1) := by decide +kernel
theorem dJ3_checkIndex_8e157_6 : decode cJ3_checkIndex_8e157 6 = .ok (.if_icmp .lt 10, 3) := by decide +kernel
theorem dJ3_checkIndex_8e157_9 : decode cJ3_checkIndex_8e157 9 = .ok (.aload_n 2, 1) := by decide +kernel
theorem dJ3_checkIndex_8e157_10 : decode cJ3_checkIndex_8e157 10 = .ok (.iload_n 0, 1) := by decide +kernel
theorem dJ3_checkIndex_8e157_11 : decode cJ3_checkIndex_8e157 11 = .ok (.iload_n 1, 1) := by decide +kernel
theorem dJ3_checkIndex_8e157_12 : decode cJ3_checkIndex_8e157 12 = .ok (.invokestatic 95, 3) := by decide +kernel
theorem dJ3_checkIndex_8e157_15 : decode cJ3_checkIndex_8e157 15 = .ok (.athrow, 1) := by decide +kernel
theorem dJ3_checkIndex_8e157_16 : decode cJ3_checkIndex_8e157 16 = .ok (.iload_n 0, 1) := by decide +kernel
theorem dJ3_checkIndex_8e157_17 : decode cJ3_checkIndex_8e157 17 = .ok (.ireturn, 1) := by decide +kernel
theorem dL_cell_0 : decode cL_cell 0 = .ok (.iload_n 1, 1) := by decide +kernel
theorem dL_cell_1 : decode cL_cell 1 = .ok (.aload_n 0, 1) := by decide +kernel
theorem dL_cell_2 : decode cL_cell 2 = .ok (.arraylength, 1) := by decide +kernel
theorem dL_cell_3 : decode cL_cell 3 = .ok (.if_icmp .ge 9, 3) := by decide +kernel
theorem dL_cell_6 : decode cL_cell 6 = .ok (.aload_n 0, 1) := by decide +kernel
theorem dL_cell_7 : decode cL_cell 7 = .ok (.iload_n 1, 1) := by decide +kernel
theorem dL_cell_8 : decode cL_cell 8 = .ok (.iaload, 1) := by decide +kernel
theorem dL_cell_9 : decode cL_cell 9 = .ok (.goto 11, 3) := by decide +kernel
theorem dL_cell_12 : decode cL_cell 12 = .ok (.ldc 7, 2) := by decide +kernel
theorem dL_cell_14 : decode cL_cell 14 = .ok (.iload_n 1, 1) := by decide +kernel
theorem dL_cell_15 : decode cL_cell 15 = .ok (.imul, 1) := by decide +kernel
theorem dL_cell_16 : decode cL_cell 16 = .ok (.sipush 1409, 3) := by decide +kernel
theorem dL_cell_19 : decode cL_cell 19 = .ok (.iadd, 1) := by decide +kernel
theorem dL_cell_20 : decode cL_cell 20 = .ok (.ireturn, 1) := by decide +kernel
theorem dL_low_0 : decode cL_low 0 = .ok (.iload_n 0, 1) := by decide +kernel
theorem dL_low_1 : decode cL_low 1 = .ok (.ldc 8, 2) := by decide +kernel
theorem dL_low_3 : decode cL_low 3 = .ok (.iand, 1) := by decide +kernel
theorem dL_low_4 : decode cL_low 4 = .ok (.iload_n 1, 1) := by decide +kernel
theorem dL_low_5 : decode cL_low 5 = .ok (.irem, 1) := by decide +kernel
theorem dL_low_6 : decode cL_low 6 = .ok (.ireturn, 1) := by decide +kernel
theorem dL_digest_0 : decode cL_digest 0 = .ok (.ldc2_w 9, 3) := by decide +kernel
theorem dL_digest_3 : decode cL_digest 3 = .ok (.lstore_n 1, 1) := by decide +kernel
theorem dL_digest_4 : decode cL_digest 4 = .ok (.iconst 0, 1) := by decide +kernel
theorem dL_digest_5 : decode cL_digest 5 = .ok (.istore_n 3, 1) := by decide +kernel
theorem dL_digest_6 : decode cL_digest 6 = .ok (.iload_n 3, 1) := by decide +kernel
theorem dL_digest_7 : decode cL_digest 7 = .ok (.bipush 11, 2) := by decide +kernel
theorem dL_digest_9 : decode cL_digest 9 = .ok (.if_icmp .ge 22, 3) := by decide +kernel
theorem dL_digest_12 : decode cL_digest 12 = .ok (.ldc2_w 11, 3) := by decide +kernel
theorem dL_digest_15 : decode cL_digest 15 = .ok (.lload_n 1, 1) := by decide +kernel
theorem dL_digest_16 : decode cL_digest 16 = .ok (.lmul, 1) := by decide +kernel
theorem dL_digest_17 : decode cL_digest 17 = .ok (.aload_n 0, 1) := by decide +kernel
theorem dL_digest_18 : decode cL_digest 18 = .ok (.iload_n 3, 1) := by decide +kernel
theorem dL_digest_19 : decode cL_digest 19 = .ok (.invokevirtual 13, 3) := by decide +kernel
theorem dL_digest_22 : decode cL_digest 22 = .ok (.i2l, 1) := by decide +kernel
theorem dL_digest_23 : decode cL_digest 23 = .ok (.ladd, 1) := by decide +kernel
theorem dL_digest_24 : decode cL_digest 24 = .ok (.lstore_n 1, 1) := by decide +kernel
theorem dL_digest_25 : decode cL_digest 25 = .ok (.iinc 3 1, 3) := by decide +kernel
theorem dL_digest_28 : decode cL_digest 28 = .ok (.goto (-22), 3) := by decide +kernel
theorem dL_digest_31 : decode cL_digest 31 = .ok (.iconst 0, 1) := by decide +kernel
theorem dL_digest_32 : decode cL_digest 32 = .ok (.istore_n 3, 1) := by decide +kernel
theorem dL_digest_33 : decode cL_digest 33 = .ok (.iload_n 3, 1) := by decide +kernel
theorem dL_digest_34 : decode cL_digest 34 = .ok (.aload_n 0, 1) := by decide +kernel
theorem dL_digest_35 : decode cL_digest 35 = .ok (.iconst 1, 1) := by decide +kernel
theorem dL_digest_36 : decode cL_digest 36 = .ok (.invokevirtual 13, 3) := by decide +kernel
theorem dL_digest_39 : decode cL_digest 39 = .ok (.if_icmp .ge 40, 3) := by decide +kernel
theorem dL_digest_42 : decode cL_digest 42 = .ok (.iconst 0, 1) := by decide +kernel
theorem dL_digest_43 : decode cL_digest 43 = .ok (.istore 4, 2) := by decide +kernel
theorem dL_digest_45 : decode cL_digest 45 = .ok (.iload 4, 2) := by decide +kernel
theorem dL_digest_47 : decode cL_digest 47 = .ok (.bipush 6, 2) := by decide +kernel
theorem dL_digest_49 : decode cL_digest 49 = .ok (.if_icmp .ge 24, 3) := by decide +kernel
theorem dL_digest_52 : decode cL_digest 52 = .ok (.ldc2_w 11, 3) := by decide +kernel
theorem dL_digest_55 : decode cL_digest 55 = .ok (.lload_n 1, 1) := by decide +kernel
theorem dL_digest_56 : decode cL_digest 56 = .ok (.lmul, 1) := by decide +kernel
theorem dL_digest_57 : decode cL_digest 57 = .ok (.aload_n 0, 1) := by decide +kernel
theorem dL_digest_58 : decode cL_digest 58 = .ok (.iload_n 3, 1) := by decide +kernel
theorem dL_digest_59 : decode cL_digest 59 = .ok (.iload 4, 2) := by decide +kernel
theorem dL_digest_61 : decode cL_digest 61 = .ok (.invokevirtual 19, 3) := by decide +kernel
theorem dL_digest_64 : decode cL_digest 64 = .ok (.i2l, 1) := by decide +kernel
theorem dL_digest_65 : decode cL_digest 65 = .ok (.ladd, 1) := by decide +kernel
theorem dL_digest_66 : decode cL_digest 66 = .ok (.lstore_n 1, 1) := by decide +kernel
theorem dL_digest_67 : decode cL_digest 67 = .ok (.iinc 4 1, 3) := by decide +kernel
theorem dL_digest_70 : decode cL_digest 70 = .ok (.goto (-25), 3) := by decide +kernel
theorem dL_digest_73 : decode cL_digest 73 = .ok (.iinc 3 1, 3) := by decide +kernel
theorem dL_digest_76 : decode cL_digest 76 = .ok (.goto (-43), 3) := by decide +kernel
theorem dL_digest_79 : decode cL_digest 79 = .ok (.iconst 0, 1) := by decide +kernel
theorem dL_digest_80 : decode cL_digest 80 = .ok (.istore_n 3, 1) := by decide +kernel
theorem dL_digest_81 : decode cL_digest 81 = .ok (.iload_n 3, 1) := by decide +kernel
theorem dL_digest_82 : decode cL_digest 82 = .ok (.aload_n 0, 1) := by decide +kernel
theorem dL_digest_83 : decode cL_digest 83 = .ok (.iconst 3, 1) := by decide +kernel
theorem dL_digest_84 : decode cL_digest 84 = .ok (.invokevirtual 13, 3) := by decide +kernel
theorem dL_digest_87 : decode cL_digest 87 = .ok (.if_icmp .ge 124, 3) := by decide +kernel
theorem dL_digest_90 : decode cL_digest 90 = .ok (.iconst 0, 1) := by decide +kernel
theorem dL_digest_91 : decode cL_digest 91 = .ok (.istore 4, 2) := by decide +kernel
theorem dL_digest_93 : decode cL_digest 93 = .ok (.iload 4, 2) := by decide +kernel
theorem dL_digest_95 : decode cL_digest 95 = .ok (.bipush 11, 2) := by decide +kernel
theorem dL_digest_97 : decode cL_digest 97 = .ok (.if_icmp .ge 24, 3) := by decide +kernel
theorem dL_digest_100 : decode cL_digest 100 = .ok (.ldc2_w 11, 3) := by decide +kernel
theorem dL_digest_103 : decode cL_digest 103 = .ok (.lload_n 1, 1) := by decide +kernel
theorem dL_digest_104 : decode cL_digest 104 = .ok (.lmul, 1) := by decide +kernel
theorem dL_digest_105 : decode cL_digest 105 = .ok (.aload_n 0, 1) := by decide +kernel
theorem dL_digest_106 : decode cL_digest 106 = .ok (.iload_n 3, 1) := by decide +kernel
theorem dL_digest_107 : decode cL_digest 107 = .ok (.iload 4, 2) := by decide +kernel
theorem dL_digest_109 : decode cL_digest 109 = .ok (.invokevirtual 23, 3) := by decide +kernel
theorem dL_digest_112 : decode cL_digest 112 = .ok (.i2l, 1) := by decide +kernel
theorem dL_digest_113 : decode cL_digest 113 = .ok (.ladd, 1) := by decide +kernel
theorem dL_digest_114 : decode cL_digest 114 = .ok (.lstore_n 1, 1) := by decide +kernel
theorem dL_digest_115 : decode cL_digest 115 = .ok (.iinc 4 1, 3) := by decide +kernel
theorem dL_digest_118 : decode cL_digest 118 = .ok (.goto (-25), 3) := by decide +kernel
theorem dL_digest_121 : decode cL_digest 121 = .ok (.iconst 0, 1) := by decide +kernel
theorem dL_digest_122 : decode cL_digest 122 = .ok (.istore 4, 2) := by decide +kernel
theorem dL_digest_124 : decode cL_digest 124 = .ok (.iload 4, 2) := by decide +kernel
theorem dL_digest_126 : decode cL_digest 126 = .ok (.aload_n 0, 1) := by decide +kernel
theorem dL_digest_127 : decode cL_digest 127 = .ok (.iload_n 3, 1) := by decide +kernel
theorem dL_digest_128 : decode cL_digest 128 = .ok (.iconst 4, 1) := by decide +kernel
theorem dL_digest_129 : decode cL_digest 129 = .ok (.invokevirtual 23, 3) := by decide +kernel
theorem dL_digest_132 : decode cL_digest 132 = .ok (.if_icmp .ge 39, 3) := by decide +kernel
theorem dL_digest_135 : decode cL_digest 135 = .ok (.ldc2_w 11, 3) := by decide +kernel
theorem dL_digest_138 : decode cL_digest 138 = .ok (.lload_n 1, 1) := by decide +kernel
theorem dL_digest_139 : decode cL_digest 139 = .ok (.lmul, 1) := by decide +kernel
theorem dL_digest_140 : decode cL_digest 140 = .ok (.ldc2_w 26, 3) := by decide +kernel
theorem dL_digest_143 : decode cL_digest 143 = .ok (.aload_n 0, 1) := by decide +kernel
theorem dL_digest_144 : decode cL_digest 144 = .ok (.iload_n 3, 1) := by decide +kernel
theorem dL_digest_145 : decode cL_digest 145 = .ok (.iload 4, 2) := by decide +kernel
theorem dL_digest_147 : decode cL_digest 147 = .ok (.iconst 0, 1) := by decide +kernel
theorem dL_digest_148 : decode cL_digest 148 = .ok (.invokevirtual 28, 3) := by decide +kernel
theorem dL_digest_151 : decode cL_digest 151 = .ok (.i2l, 1) := by decide +kernel
theorem dL_digest_152 : decode cL_digest 152 = .ok (.lmul, 1) := by decide +kernel
theorem dL_digest_153 : decode cL_digest 153 = .ok (.ladd, 1) := by decide +kernel
theorem dL_digest_154 : decode cL_digest 154 = .ok (.aload_n 0, 1) := by decide +kernel
theorem dL_digest_155 : decode cL_digest 155 = .ok (.iload_n 3, 1) := by decide +kernel
theorem dL_digest_156 : decode cL_digest 156 = .ok (.iload 4, 2) := by decide +kernel
theorem dL_digest_158 : decode cL_digest 158 = .ok (.iconst 2, 1) := by decide +kernel
theorem dL_digest_159 : decode cL_digest 159 = .ok (.invokevirtual 28, 3) := by decide +kernel
theorem dL_digest_162 : decode cL_digest 162 = .ok (.i2l, 1) := by decide +kernel
theorem dL_digest_163 : decode cL_digest 163 = .ok (.ladd, 1) := by decide +kernel
theorem dL_digest_164 : decode cL_digest 164 = .ok (.lstore_n 1, 1) := by decide +kernel
theorem dL_digest_165 : decode cL_digest 165 = .ok (.iinc 4 1, 3) := by decide +kernel
theorem dL_digest_168 : decode cL_digest 168 = .ok (.goto (-44), 3) := by decide +kernel
theorem dL_digest_171 : decode cL_digest 171 = .ok (.iconst 0, 1) := by decide +kernel
theorem dL_digest_172 : decode cL_digest 172 = .ok (.istore 4, 2) := by decide +kernel
theorem dL_digest_174 : decode cL_digest 174 = .ok (.iload 4, 2) := by decide +kernel
theorem dL_digest_176 : decode cL_digest 176 = .ok (.aload_n 0, 1) := by decide +kernel
theorem dL_digest_177 : decode cL_digest 177 = .ok (.iconst 2, 1) := by decide +kernel
theorem dL_digest_178 : decode cL_digest 178 = .ok (.invokevirtual 13, 3) := by decide +kernel
theorem dL_digest_181 : decode cL_digest 181 = .ok (.if_icmp .ge 24, 3) := by decide +kernel
theorem dL_digest_184 : decode cL_digest 184 = .ok (.ldc2_w 11, 3) := by decide +kernel
theorem dL_digest_187 : decode cL_digest 187 = .ok (.lload_n 1, 1) := by decide +kernel
theorem dL_digest_188 : decode cL_digest 188 = .ok (.lmul, 1) := by decide +kernel
theorem dL_digest_189 : decode cL_digest 189 = .ok (.aload_n 0, 1) := by decide +kernel
theorem dL_digest_190 : decode cL_digest 190 = .ok (.iload_n 3, 1) := by decide +kernel
theorem dL_digest_191 : decode cL_digest 191 = .ok (.iload 4, 2) := by decide +kernel
theorem dL_digest_193 : decode cL_digest 193 = .ok (.invokevirtual 32, 3) := by decide +kernel
theorem dL_digest_196 : decode cL_digest 196 = .ok (.i2l, 1) := by decide +kernel
theorem dL_digest_197 : decode cL_digest 197 = .ok (.ladd, 1) := by decide +kernel
theorem dL_digest_198 : decode cL_digest 198 = .ok (.lstore_n 1, 1) := by decide +kernel
theorem dL_digest_199 : decode cL_digest 199 = .ok (.iinc 4 1, 3) := by decide +kernel
theorem dL_digest_202 : decode cL_digest 202 = .ok (.goto (-28), 3) := by decide +kernel
theorem dL_digest_205 : decode cL_digest 205 = .ok (.iinc 3 1, 3) := by decide +kernel
theorem dL_digest_208 : decode cL_digest 208 = .ok (.goto (-127), 3) := by decide +kernel
theorem dL_digest_211 : decode cL_digest 211 = .ok (.iconst 0, 1) := by decide +kernel
theorem dL_digest_212 : decode cL_digest 212 = .ok (.istore_n 3, 1) := by decide +kernel
theorem dL_digest_213 : decode cL_digest 213 = .ok (.iload_n 3, 1) := by decide +kernel
theorem dL_digest_214 : decode cL_digest 214 = .ok (.aload_n 0, 1) := by decide +kernel
theorem dL_digest_215 : decode cL_digest 215 = .ok (.iconst 2, 1) := by decide +kernel
theorem dL_digest_216 : decode cL_digest 216 = .ok (.invokevirtual 13, 3) := by decide +kernel
theorem dL_digest_219 : decode cL_digest 219 = .ok (.if_icmp .ge 26, 3) := by decide +kernel
theorem dL_digest_222 : decode cL_digest 222 = .ok (.ldc2_w 11, 3) := by decide +kernel
theorem dL_digest_225 : decode cL_digest 225 = .ok (.lload_n 1, 1) := by decide +kernel
theorem dL_digest_226 : decode cL_digest 226 = .ok (.lmul, 1) := by decide +kernel
theorem dL_digest_227 : decode cL_digest 227 = .ok (.aload_n 0, 1) := by decide +kernel
theorem dL_digest_228 : decode cL_digest 228 = .ok (.iload_n 3, 1) := by decide +kernel
theorem dL_digest_229 : decode cL_digest 229 = .ok (.invokevirtual 35, 3) := by decide +kernel
theorem dL_digest_232 : decode cL_digest 232 = .ok (.ldc2_w 39, 3) := by decide +kernel
theorem dL_digest_235 : decode cL_digest 235 = .ok (.dmul, 1) := by decide +kernel
theorem dL_digest_236 : decode cL_digest 236 = .ok (.d2l, 1) := by decide +kernel
theorem dL_digest_237 : decode cL_digest 237 = .ok (.ladd, 1) := by decide +kernel
theorem dL_digest_238 : decode cL_digest 238 = .ok (.lstore_n 1, 1) := by decide +kernel
theorem dL_digest_239 : decode cL_digest 239 = .ok (.iinc 3 1, 3) := by decide +kernel
theorem dL_digest_242 : decode cL_digest 242 = .ok (.goto (-29), 3) := by decide +kernel
theorem dL_digest_245 : decode cL_digest 245 = .ok (.ldc2_w 11, 3) := by decide +kernel
theorem dL_digest_248 : decode cL_digest 248 = .ok (.lload_n 1, 1) := by decide +kernel
theorem dL_digest_249 : decode cL_digest 249 = .ok (.lmul, 1) := by decide +kernel
theorem dL_digest_250 : decode cL_digest 250 = .ok (.aload_n 0, 1) := by decide +kernel
theorem dL_digest_251 : decode cL_digest 251 = .ok (.invokevirtual 41, 3) := by decide +kernel
theorem dL_digest_254 : decode cL_digest 254 = .ok (.ladd, 1) := by decide +kernel
theorem dL_digest_255 : decode cL_digest 255 = .ok (.lreturn, 1) := by decide +kernel
theorem dL_tour_0 : decode cL_tour 0 = .ok (.aload_n 0, 1) := by decide +kernel
theorem dL_tour_1 : decode cL_tour 1 = .ok (.iload_n 1, 1) := by decide +kernel
theorem dL_tour_2 : decode cL_tour 2 = .ok (.bipush 9, 2) := by decide +kernel
theorem dL_tour_4 : decode cL_tour 4 = .ok (.invokevirtual 23, 3) := by decide +kernel
theorem dL_tour_7 : decode cL_tour 7 = .ok (.istore_n 2, 1) := by decide +kernel
theorem dL_tour_8 : decode cL_tour 8 = .ok (.aload_n 0, 1) := by decide +kernel
theorem dL_tour_9 : decode cL_tour 9 = .ok (.iload_n 1, 1) := by decide +kernel
theorem dL_tour_10 : decode cL_tour 10 = .ok (.iconst 3, 1) := by decide +kernel
theorem dL_tour_11 : decode cL_tour 11 = .ok (.invokevirtual 23, 3) := by decide +kernel
theorem dL_tour_14 : decode cL_tour 14 = .ok (.istore_n 3, 1) := by decide +kernel
theorem dL_tour_15 : decode cL_tour 15 = .ok (.iconst 0, 1) := by decide +kernel
theorem dL_tour_16 : decode cL_tour 16 = .ok (.istore 4, 2) := by decide +kernel
theorem dL_tour_18 : decode cL_tour 18 = .ok (.iconst 1, 1) := by decide +kernel
theorem dL_tour_19 : decode cL_tour 19 = .ok (.istore 5, 2) := by decide +kernel
theorem dL_tour_21 : decode cL_tour 21 = .ok (.iconst 0, 1) := by decide +kernel
theorem dL_tour_22 : decode cL_tour 22 = .ok (.istore 6, 2) := by decide +kernel
theorem dL_tour_24 : decode cL_tour 24 = .ok (.iload 6, 2) := by decide +kernel
theorem dL_tour_26 : decode cL_tour 26 = .ok (.aload_n 0, 1) := by decide +kernel
theorem dL_tour_27 : decode cL_tour 27 = .ok (.iload_n 1, 1) := by decide +kernel
theorem dL_tour_28 : decode cL_tour 28 = .ok (.iconst 4, 1) := by decide +kernel
theorem dL_tour_29 : decode cL_tour 29 = .ok (.invokevirtual 23, 3) := by decide +kernel
theorem dL_tour_32 : decode cL_tour 32 = .ok (.if_icmp .ge 236, 3) := by decide +kernel
theorem dL_tour_35 : decode cL_tour 35 = .ok (.aload_n 0, 1) := by decide +kernel
theorem dL_tour_36 : decode cL_tour 36 = .ok (.iload_n 1, 1) := by decide +kernel
theorem dL_tour_37 : decode cL_tour 37 = .ok (.iload 6, 2) := by decide +kernel
theorem dL_tour_39 : decode cL_tour 39 = .ok (.iconst 0, 1) := by decide +kernel
theorem dL_tour_40 : decode cL_tour 40 = .ok (.invokevirtual 28, 3) := by decide +kernel
theorem dL_tour_43 : decode cL_tour 43 = .ok (.istore 7, 2) := by decide +kernel
theorem dL_tour_45 : decode cL_tour 45 = .ok (.iload_n 2, 1) := by decide +kernel
theorem dL_tour_46 : decode cL_tour 46 = .ok (.aload_n 0, 1) := by decide +kernel
theorem dL_tour_47 : decode cL_tour 47 = .ok (.iload 7, 2) := by decide +kernel
theorem dL_tour_49 : decode cL_tour 49 = .ok (.iconst 0, 1) := by decide +kernel
theorem dL_tour_50 : decode cL_tour 50 = .ok (.invokevirtual 19, 3) := by decide +kernel
theorem dL_tour_53 : decode cL_tour 53 = .ok (.iadd, 1) := by decide +kernel
theorem dL_tour_54 : decode cL_tour 54 = .ok (.iconst 2, 1) := by decide +kernel
theorem dL_tour_55 : decode cL_tour 55 = .ok (.isub, 1) := by decide +kernel
theorem dL_tour_56 : decode cL_tour 56 = .ok (.istore 8, 2) := by decide +kernel
theorem dL_tour_58 : decode cL_tour 58 = .ok (.iload 8, 2) := by decide +kernel
theorem dL_tour_60 : decode cL_tour 60 = .ok (.iconst 1, 1) := by decide +kernel
theorem dL_tour_61 : decode cL_tour 61 = .ok (.if_icmp .ge 7, 3) := by decide +kernel
theorem dL_tour_64 : decode cL_tour 64 = .ok (.iconst 1, 1) := by decide +kernel
theorem dL_tour_65 : decode cL_tour 65 = .ok (.goto 5, 3) := by decide +kernel
theorem dL_tour_68 : decode cL_tour 68 = .ok (.iload 8, 2) := by decide +kernel
theorem dL_tour_70 : decode cL_tour 70 = .ok (.istore 8, 2) := by decide +kernel
theorem dL_tour_72 : decode cL_tour 72 = .ok (.iload 8, 2) := by decide +kernel
theorem dL_tour_74 : decode cL_tour 74 = .ok (.iload_n 3, 1) := by decide +kernel
theorem dL_tour_75 : decode cL_tour 75 = .ok (.if_icmp .ge 8, 3) := by decide +kernel
theorem dL_tour_78 : decode cL_tour 78 = .ok (.iload 8, 2) := by decide +kernel
theorem dL_tour_80 : decode cL_tour 80 = .ok (.goto 4, 3) := by decide +kernel
theorem dL_tour_83 : decode cL_tour 83 = .ok (.iload_n 3, 1) := by decide +kernel
theorem dL_tour_84 : decode cL_tour 84 = .ok (.istore 9, 2) := by decide +kernel
theorem dL_tour_86 : decode cL_tour 86 = .ok (.aload_n 0, 1) := by decide +kernel
theorem dL_tour_87 : decode cL_tour 87 = .ok (.iload_n 1, 1) := by decide +kernel
theorem dL_tour_88 : decode cL_tour 88 = .ok (.iload 6, 2) := by decide +kernel
theorem dL_tour_90 : decode cL_tour 90 = .ok (.iconst 1, 1) := by decide +kernel
theorem dL_tour_91 : decode cL_tour 91 = .ok (.invokevirtual 28, 3) := by decide +kernel
theorem dL_tour_94 : decode cL_tour 94 = .ok (.iload 8, 2) := by decide +kernel
theorem dL_tour_96 : decode cL_tour 96 = .ok (.if_icmp .ne 16, 3) := by decide +kernel
theorem dL_tour_99 : decode cL_tour 99 = .ok (.aload_n 0, 1) := by decide +kernel
theorem dL_tour_100 : decode cL_tour 100 = .ok (.iload_n 1, 1) := by decide +kernel
theorem dL_tour_101 : decode cL_tour 101 = .ok (.iload 6, 2) := by decide +kernel
theorem dL_tour_103 : decode cL_tour 103 = .ok (.iconst 2, 1) := by decide +kernel
theorem dL_tour_104 : decode cL_tour 104 = .ok (.invokevirtual 28, 3) := by decide +kernel
theorem dL_tour_107 : decode cL_tour 107 = .ok (.iload 9, 2) := by decide +kernel
theorem dL_tour_109 : decode cL_tour 109 = .ok (.if_icmp .eq 5, 3) := by decide +kernel
theorem dL_tour_112 : decode cL_tour 112 = .ok (.iconst 0, 1) := by decide +kernel
theorem dL_tour_113 : decode cL_tour 113 = .ok (.ireturn, 1) := by decide +kernel
theorem dL_tour_114 : decode cL_tour 114 = .ok (.iload_n 3, 1) := by decide +kernel
theorem dL_tour_115 : decode cL_tour 115 = .ok (.iload 9, 2) := by decide +kernel
theorem dL_tour_117 : decode cL_tour 117 = .ok (.isub, 1) := by decide +kernel
theorem dL_tour_118 : decode cL_tour 118 = .ok (.istore_n 3, 1) := by decide +kernel
theorem dL_tour_119 : decode cL_tour 119 = .ok (.iload 9, 2) := by decide +kernel
theorem dL_tour_121 : decode cL_tour 121 = .ok (.iload 4, 2) := by decide +kernel
theorem dL_tour_123 : decode cL_tour 123 = .ok (.if_icmp .le 8, 3) := by decide +kernel
theorem dL_tour_126 : decode cL_tour 126 = .ok (.iload 9, 2) := by decide +kernel
theorem dL_tour_128 : decode cL_tour 128 = .ok (.goto 5, 3) := by decide +kernel
theorem dL_tour_131 : decode cL_tour 131 = .ok (.iload 4, 2) := by decide +kernel
theorem dL_tour_133 : decode cL_tour 133 = .ok (.istore 4, 2) := by decide +kernel
theorem dL_tour_135 : decode cL_tour 135 = .ok (.iload 5, 2) := by decide +kernel
theorem dL_tour_137 : decode cL_tour 137 = .ok (.ifCond .eq 23, 3) := by decide +kernel
theorem dL_tour_140 : decode cL_tour 140 = .ok (.aload_n 0, 1) := by decide +kernel
theorem dL_tour_141 : decode cL_tour 141 = .ok (.iload 7, 2) := by decide +kernel
theorem dL_tour_143 : decode cL_tour 143 = .ok (.iconst 1, 1) := by decide +kernel
theorem dL_tour_144 : decode cL_tour 144 = .ok (.invokevirtual 19, 3) := by decide +kernel
theorem dL_tour_147 : decode cL_tour 147 = .ok (.aload_n 0, 1) := by decide +kernel
theorem dL_tour_148 : decode cL_tour 148 = .ok (.iload_n 1, 1) := by decide +kernel
theorem dL_tour_149 : decode cL_tour 149 = .ok (.iconst 0, 1) := by decide +kernel
theorem dL_tour_150 : decode cL_tour 150 = .ok (.invokevirtual 23, 3) := by decide +kernel
theorem dL_tour_153 : decode cL_tour 153 = .ok (.if_icmp .lt 7, 3) := by decide +kernel
theorem dL_tour_156 : decode cL_tour 156 = .ok (.iconst 1, 1) := by decide +kernel
theorem dL_tour_157 : decode cL_tour 157 = .ok (.goto 4, 3) := by decide +kernel
theorem dL_tour_160 : decode cL_tour 160 = .ok (.iconst 0, 1) := by decide +kernel
theorem dL_tour_161 : decode cL_tour 161 = .ok (.istore 5, 2) := by decide +kernel
theorem dL_tour_163 : decode cL_tour 163 = .ok (.iconst 0, 1) := by decide +kernel
theorem dL_tour_164 : decode cL_tour 164 = .ok (.istore 10, 2) := by decide +kernel
theorem dL_tour_166 : decode cL_tour 166 = .ok (.iload 10, 2) := by decide +kernel
theorem dL_tour_168 : decode cL_tour 168 = .ok (.aload_n 0, 1) := by decide +kernel
theorem dL_tour_169 : decode cL_tour 169 = .ok (.iconst 3, 1) := by decide +kernel
theorem dL_tour_170 : decode cL_tour 170 = .ok (.invokevirtual 13, 3) := by decide +kernel
theorem dL_tour_173 : decode cL_tour 173 = .ok (.if_icmp .ge 89, 3) := by decide +kernel
theorem dL_tour_176 : decode cL_tour 176 = .ok (.aload_n 0, 1) := by decide +kernel
theorem dL_tour_177 : decode cL_tour 177 = .ok (.iload_n 1, 1) := by decide +kernel
theorem dL_tour_178 : decode cL_tour 178 = .ok (.bipush 6, 2) := by decide +kernel
theorem dL_tour_180 : decode cL_tour 180 = .ok (.invokevirtual 23, 3) := by decide +kernel
theorem dL_tour_183 : decode cL_tour 183 = .ok (.ifCond .ne 79, 3) := by decide +kernel
theorem dL_tour_186 : decode cL_tour 186 = .ok (.iconst 0, 1) := by decide +kernel
theorem dL_tour_187 : decode cL_tour 187 = .ok (.istore 11, 2) := by decide +kernel
theorem dL_tour_189 : decode cL_tour 189 = .ok (.iload 11, 2) := by decide +kernel
theorem dL_tour_191 : decode cL_tour 191 = .ok (.aload_n 0, 1) := by decide +kernel
theorem dL_tour_192 : decode cL_tour 192 = .ok (.iload 10, 2) := by decide +kernel
theorem dL_tour_194 : decode cL_tour 194 = .ok (.iconst 4, 1) := by decide +kernel
theorem dL_tour_195 : decode cL_tour 195 = .ok (.invokevirtual 23, 3) := by decide +kernel
theorem dL_tour_198 : decode cL_tour 198 = .ok (.if_icmp .ge 58, 3) := by decide +kernel
theorem dL_tour_201 : decode cL_tour 201 = .ok (.iload 10, 2) := by decide +kernel
theorem dL_tour_203 : decode cL_tour 203 = .ok (.iload_n 1, 1) := by decide +kernel
theorem dL_tour_204 : decode cL_tour 204 = .ok (.if_icmp .eq 52, 3) := by decide +kernel
theorem dL_tour_207 : decode cL_tour 207 = .ok (.aload_n 0, 1) := by decide +kernel
theorem dL_tour_208 : decode cL_tour 208 = .ok (.iload 10, 2) := by decide +kernel
theorem dL_tour_210 : decode cL_tour 210 = .ok (.bipush 6, 2) := by decide +kernel
theorem dL_tour_212 : decode cL_tour 212 = .ok (.invokevirtual 23, 3) := by decide +kernel
theorem dL_tour_215 : decode cL_tour 215 = .ok (.ifCond .ne 35, 3) := by decide +kernel
theorem dL_tour_218 : decode cL_tour 218 = .ok (.aload_n 0, 1) := by decide +kernel
theorem dL_tour_219 : decode cL_tour 219 = .ok (.iload 10, 2) := by decide +kernel
theorem dL_tour_221 : decode cL_tour 221 = .ok (.iconst 0, 1) := by decide +kernel
theorem dL_tour_222 : decode cL_tour 222 = .ok (.invokevirtual 23, 3) := by decide +kernel
theorem dL_tour_225 : decode cL_tour 225 = .ok (.aload_n 0, 1) := by decide +kernel
theorem dL_tour_226 : decode cL_tour 226 = .ok (.iload_n 1, 1) := by decide +kernel
theorem dL_tour_227 : decode cL_tour 227 = .ok (.iconst 0, 1) := by decide +kernel
theorem dL_tour_228 : decode cL_tour 228 = .ok (.invokevirtual 23, 3) := by decide +kernel
theorem dL_tour_231 : decode cL_tour 231 = .ok (.if_icmp .ne 19, 3) := by decide +kernel
theorem dL_tour_234 : decode cL_tour 234 = .ok (.aload_n 0, 1) := by decide +kernel
theorem dL_tour_235 : decode cL_tour 235 = .ok (.iload 10, 2) := by decide +kernel
theorem dL_tour_237 : decode cL_tour 237 = .ok (.iload 11, 2) := by decide +kernel
theorem dL_tour_239 : decode cL_tour 239 = .ok (.iconst 0, 1) := by decide +kernel
theorem dL_tour_240 : decode cL_tour 240 = .ok (.invokevirtual 28, 3) := by decide +kernel
theorem dL_tour_243 : decode cL_tour 243 = .ok (.iload 7, 2) := by decide +kernel
theorem dL_tour_245 : decode cL_tour 245 = .ok (.if_icmp .ne 5, 3) := by decide +kernel
theorem dL_tour_248 : decode cL_tour 248 = .ok (.iconst 0, 1) := by decide +kernel
theorem dL_tour_249 : decode cL_tour 249 = .ok (.ireturn, 1) := by decide +kernel
theorem dL_tour_250 : decode cL_tour 250 = .ok (.iinc 11 1, 3) := by decide +kernel
theorem dL_tour_253 : decode cL_tour 253 = .ok (.goto (-64), 3) := by decide +kernel
theorem dL_tour_256 : decode cL_tour 256 = .ok (.iinc 10 1, 3) := by decide +kernel
theorem dL_tour_259 : decode cL_tour 259 = .ok (.goto (-93), 3) := by decide +kernel
theorem dL_tour_262 : decode cL_tour 262 = .ok (.iinc 6 1, 3) := by decide +kernel
theorem dL_tour_265 : decode cL_tour 265 = .ok (.goto (-241), 3) := by decide +kernel
theorem dL_tour_268 : decode cL_tour 268 = .ok (.ldc2_w 45, 3) := by decide +kernel
theorem dL_tour_271 : decode cL_tour 271 = .ok (.ldc2_w 47, 3) := by decide +kernel
theorem dL_tour_274 : decode cL_tour 274 = .ok (.iload 4, 2) := by decide +kernel
theorem dL_tour_276 : decode cL_tour 276 = .ok (.iconst 1, 1) := by decide +kernel
theorem dL_tour_277 : decode cL_tour 277 = .ok (.iadd, 1) := by decide +kernel
theorem dL_tour_278 : decode cL_tour 278 = .ok (.i2d, 1) := by decide +kernel
theorem dL_tour_279 : decode cL_tour 279 = .ok (.dmul, 1) := by decide +kernel
theorem dL_tour_280 : decode cL_tour 280 = .ok (.dadd, 1) := by decide +kernel
theorem dL_tour_281 : decode cL_tour 281 = .ok (.dstore 6, 2) := by decide +kernel
theorem dL_tour_283 : decode cL_tour 283 = .ok (.iconst 1, 1) := by decide +kernel
theorem dL_tour_284 : decode cL_tour 284 = .ok (.istore 8, 2) := by decide +kernel
theorem dL_tour_286 : decode cL_tour 286 = .ok (.iconst 0, 1) := by decide +kernel
theorem dL_tour_287 : decode cL_tour 287 = .ok (.istore 9, 2) := by decide +kernel
theorem dL_tour_289 : decode cL_tour 289 = .ok (.iload 9, 2) := by decide +kernel
theorem dL_tour_291 : decode cL_tour 291 = .ok (.aload_n 0, 1) := by decide +kernel
theorem dL_tour_292 : decode cL_tour 292 = .ok (.iconst 2, 1) := by decide +kernel
theorem dL_tour_293 : decode cL_tour 293 = .ok (.invokevirtual 13, 3) := by decide +kernel
theorem dL_tour_296 : decode cL_tour 296 = .ok (.if_icmp .ge 81, 3) := by decide +kernel
theorem dL_tour_299 : decode cL_tour 299 = .ok (.aload_n 0, 1) := by decide +kernel
theorem dL_tour_300 : decode cL_tour 300 = .ok (.iload 9, 2) := by decide +kernel
theorem dL_tour_302 : decode cL_tour 302 = .ok (.invokevirtual 35, 3) := by decide +kernel
theorem dL_tour_305 : decode cL_tour 305 = .ok (.dload 6, 2) := by decide +kernel
theorem dL_tour_307 : decode cL_tour 307 = .ok (.dcmp .l, 1) := by decide +kernel
theorem dL_tour_308 : decode cL_tour 308 = .ok (.ifCond .lt 7, 3) := by decide +kernel
theorem dL_tour_311 : decode cL_tour 311 = .ok (.iconst 1, 1) := by decide +kernel
theorem dL_tour_312 : decode cL_tour 312 = .ok (.goto 4, 3) := by decide +kernel
theorem dL_tour_315 : decode cL_tour 315 = .ok (.iconst 0, 1) := by decide +kernel
theorem dL_tour_316 : decode cL_tour 316 = .ok (.istore 10, 2) := by decide +kernel
theorem dL_tour_318 : decode cL_tour 318 = .ok (.aload_n 0, 1) := by decide +kernel
theorem dL_tour_319 : decode cL_tour 319 = .ok (.iload_n 1, 1) := by decide +kernel
theorem dL_tour_320 : decode cL_tour 320 = .ok (.iload 9, 2) := by decide +kernel
theorem dL_tour_322 : decode cL_tour 322 = .ok (.invokevirtual 32, 3) := by decide +kernel
theorem dL_tour_325 : decode cL_tour 325 = .ok (.iload 10, 2) := by decide +kernel
theorem dL_tour_327 : decode cL_tour 327 = .ok (.ifCond .eq 7, 3) := by decide +kernel
theorem dL_tour_330 : decode cL_tour 330 = .ok (.iconst 1, 1) := by decide +kernel
theorem dL_tour_331 : decode cL_tour 331 = .ok (.goto 4, 3) := by decide +kernel
theorem dL_tour_334 : decode cL_tour 334 = .ok (.iconst 0, 1) := by decide +kernel
theorem dL_tour_335 : decode cL_tour 335 = .ok (.if_icmp .eq 5, 3) := by decide +kernel
theorem dL_tour_338 : decode cL_tour 338 = .ok (.iconst 0, 1) := by decide +kernel
theorem dL_tour_339 : decode cL_tour 339 = .ok (.ireturn, 1) := by decide +kernel
theorem dL_tour_340 : decode cL_tour 340 = .ok (.iload 8, 2) := by decide +kernel
theorem dL_tour_342 : decode cL_tour 342 = .ok (.ifCond .eq 26, 3) := by decide +kernel
theorem dL_tour_345 : decode cL_tour 345 = .ok (.aload_n 0, 1) := by decide +kernel
theorem dL_tour_346 : decode cL_tour 346 = .ok (.iload_n 1, 1) := by decide +kernel
theorem dL_tour_347 : decode cL_tour 347 = .ok (.iconst 2, 1) := by decide +kernel
theorem dL_tour_348 : decode cL_tour 348 = .ok (.invokevirtual 23, 3) := by decide +kernel
theorem dL_tour_351 : decode cL_tour 351 = .ok (.iload 9, 2) := by decide +kernel
theorem dL_tour_353 : decode cL_tour 353 = .ok (.ishr, 1) := by decide +kernel
theorem dL_tour_354 : decode cL_tour 354 = .ok (.iconst 1, 1) := by decide +kernel
theorem dL_tour_355 : decode cL_tour 355 = .ok (.iand, 1) := by decide +kernel
theorem dL_tour_356 : decode cL_tour 356 = .ok (.ifCond .eq 8, 3) := by decide +kernel
theorem dL_tour_359 : decode cL_tour 359 = .ok (.iload 10, 2) := by decide +kernel
theorem dL_tour_361 : decode cL_tour 361 = .ok (.ifCond .eq 7, 3) := by decide +kernel
theorem dL_tour_364 : decode cL_tour 364 = .ok (.iconst 1, 1) := by decide +kernel
theorem dL_tour_365 : decode cL_tour 365 = .ok (.goto 4, 3) := by decide +kernel
theorem dL_tour_368 : decode cL_tour 368 = .ok (.iconst 0, 1) := by decide +kernel
theorem dL_tour_369 : decode cL_tour 369 = .ok (.istore 8, 2) := by decide +kernel
theorem dL_tour_371 : decode cL_tour 371 = .ok (.iinc 9 1, 3) := by decide +kernel
theorem dL_tour_374 : decode cL_tour 374 = .ok (.goto (-85), 3) := by decide +kernel
theorem dL_tour_377 : decode cL_tour 377 = .ok (.aload_n 0, 1) := by decide +kernel
theorem dL_tour_378 : decode cL_tour 378 = .ok (.iload_n 1, 1) := by decide +kernel
theorem dL_tour_379 : decode cL_tour 379 = .ok (.iconst 3, 1) := by decide +kernel
theorem dL_tour_380 : decode cL_tour 380 = .ok (.invokevirtual 23, 3) := by decide +kernel
theorem dL_tour_383 : decode cL_tour 383 = .ok (.ifCond .ne 7, 3) := by decide +kernel
theorem dL_tour_386 : decode cL_tour 386 = .ok (.iconst 1, 1) := by decide +kernel
theorem dL_tour_387 : decode cL_tour 387 = .ok (.goto 26, 3) := by decide +kernel
theorem dL_tour_390 : decode cL_tour 390 = .ok (.iload 8, 2) := by decide +kernel
theorem dL_tour_392 : decode cL_tour 392 = .ok (.ifCond .ne 7, 3) := by decide +kernel
theorem dL_tour_395 : decode cL_tour 395 = .ok (.iconst 2, 1) := by decide +kernel
theorem dL_tour_396 : decode cL_tour 396 = .ok (.goto 17, 3) := by decide +kernel
theorem dL_tour_399 : decode cL_tour 399 = .ok (.iload_n 3, 1) := by decide +kernel
theorem dL_tour_400 : decode cL_tour 400 = .ok (.ifCond .gt 8, 3) := by decide +kernel
theorem dL_tour_403 : decode cL_tour 403 = .ok (.iload 5, 2) := by decide +kernel
theorem dL_tour_405 : decode cL_tour 405 = .ok (.ifCond .ne 7, 3) := by decide +kernel
theorem dL_tour_408 : decode cL_tour 408 = .ok (.iconst 3, 1) := by decide +kernel
theorem dL_tour_409 : decode cL_tour 409 = .ok (.goto 4, 3) := by decide +kernel
theorem dL_tour_412 : decode cL_tour 412 = .ok (.iconst 0, 1) := by decide +kernel
theorem dL_tour_413 : decode cL_tour 413 = .ok (.istore 9, 2) := by decide +kernel
theorem dL_tour_415 : decode cL_tour 415 = .ok (.aload_n 0, 1) := by decide +kernel
theorem dL_tour_416 : decode cL_tour 416 = .ok (.iload_n 1, 1) := by decide +kernel
theorem dL_tour_417 : decode cL_tour 417 = .ok (.bipush 6, 2) := by decide +kernel
theorem dL_tour_419 : decode cL_tour 419 = .ok (.invokevirtual 23, 3) := by decide +kernel
theorem dL_tour_422 : decode cL_tour 422 = .ok (.istore 10, 2) := by decide +kernel
theorem dL_tour_424 : decode cL_tour 424 = .ok (.iload 10, 2) := by decide +kernel
theorem dL_tour_426 : decode cL_tour 426 = .ok (.iconst 1, 1) := by decide +kernel
theorem dL_tour_427 : decode cL_tour 427 = .ok (.if_icmp .ne 11, 3) := by decide +kernel
theorem dL_tour_430 : decode cL_tour 430 = .ok (.iload_n 3, 1) := by decide +kernel
theorem dL_tour_431 : decode cL_tour 431 = .ok (.ifCond .le 7, 3) := by decide +kernel
theorem dL_tour_434 : decode cL_tour 434 = .ok (.iconst 1, 1) := by decide +kernel
theorem dL_tour_435 : decode cL_tour 435 = .ok (.goto 4, 3) := by decide +kernel
theorem dL_tour_438 : decode cL_tour 438 = .ok (.iconst 0, 1) := by decide +kernel
theorem dL_tour_439 : decode cL_tour 439 = .ok (.istore 11, 2) := by decide +kernel
theorem dL_tour_441 : decode cL_tour 441 = .ok (.aload_n 0, 1) := by decide +kernel
theorem dL_tour_442 : decode cL_tour 442 = .ok (.iload_n 1, 1) := by decide +kernel
theorem dL_tour_443 : decode cL_tour 443 = .ok (.invokevirtual 49, 3) := by decide +kernel
theorem dL_tour_446 : decode cL_tour 446 = .ok (.dload 6, 2) := by decide +kernel
theorem dL_tour_448 : decode cL_tour 448 = .ok (.dcmp .l, 1) := by decide +kernel
theorem dL_tour_449 : decode cL_tour 449 = .ok (.ifCond .ne 190, 3) := by decide +kernel
theorem dL_tour_452 : decode cL_tour 452 = .ok (.aload_n 0, 1) := by decide +kernel
theorem dL_tour_453 : decode cL_tour 453 = .ok (.iload_n 1, 1) := by decide +kernel
theorem dL_tour_454 : decode cL_tour 454 = .ok (.bipush 8, 2) := by decide +kernel
theorem dL_tour_456 : decode cL_tour 456 = .ok (.invokevirtual 23, 3) := by decide +kernel
theorem dL_tour_459 : decode cL_tour 459 = .ok (.iload_n 3, 1) := by decide +kernel
theorem dL_tour_460 : decode cL_tour 460 = .ok (.if_icmp .ne 179, 3) := by decide +kernel
theorem dL_tour_463 : decode cL_tour 463 = .ok (.aload_n 0, 1) := by decide +kernel
theorem dL_tour_464 : decode cL_tour 464 = .ok (.iload_n 1, 1) := by decide +kernel
theorem dL_tour_465 : decode cL_tour 465 = .ok (.bipush 10, 2) := by decide +kernel
theorem dL_tour_467 : decode cL_tour 467 = .ok (.invokevirtual 23, 3) := by decide +kernel
theorem dL_tour_470 : decode cL_tour 470 = .ok (.iload 10, 2) := by decide +kernel
theorem dL_tour_472 : decode cL_tour 472 = .ok (.ifCond .ne 8, 3) := by decide +kernel
theorem dL_tour_475 : decode cL_tour 475 = .ok (.iload 9, 2) := by decide +kernel
theorem dL_tour_477 : decode cL_tour 477 = .ok (.goto 5, 3) := by decide +kernel
theorem dL_tour_480 : decode cL_tour 480 = .ok (.bipush (-5), 2) := by decide +kernel
theorem dL_tour_482 : decode cL_tour 482 = .ok (.if_icmp .ne 157, 3) := by decide +kernel
theorem dL_tour_485 : decode cL_tour 485 = .ok (.aload_n 0, 1) := by decide +kernel
theorem dL_tour_486 : decode cL_tour 486 = .ok (.iload_n 1, 1) := by decide +kernel
theorem dL_tour_487 : decode cL_tour 487 = .ok (.bipush 7, 2) := by decide +kernel
theorem dL_tour_489 : decode cL_tour 489 = .ok (.invokevirtual 23, 3) := by decide +kernel
theorem dL_tour_492 : decode cL_tour 492 = .ok (.ifCond .lt 7, 3) := by decide +kernel
theorem dL_tour_495 : decode cL_tour 495 = .ok (.iconst 1, 1) := by decide +kernel
theorem dL_tour_496 : decode cL_tour 496 = .ok (.goto 4, 3) := by decide +kernel
theorem dL_tour_499 : decode cL_tour 499 = .ok (.iconst 0, 1) := by decide +kernel
theorem dL_tour_500 : decode cL_tour 500 = .ok (.iload 10, 2) := by decide +kernel
theorem dL_tour_502 : decode cL_tour 502 = .ok (.iconst 2, 1) := by decide +kernel
theorem dL_tour_503 : decode cL_tour 503 = .ok (.if_icmp .ne 7, 3) := by decide +kernel
theorem dL_tour_506 : decode cL_tour 506 = .ok (.iconst 1, 1) := by decide +kernel
theorem dL_tour_507 : decode cL_tour 507 = .ok (.goto 4, 3) := by decide +kernel
theorem dL_tour_510 : decode cL_tour 510 = .ok (.iconst 0, 1) := by decide +kernel
theorem dL_tour_511 : decode cL_tour 511 = .ok (.if_icmp .ne 128, 3) := by decide +kernel
theorem dL_tour_514 : decode cL_tour 514 = .ok (.iload 10, 2) := by decide +kernel
theorem dL_tour_516 : decode cL_tour 516 = .ok (.iconst 2, 1) := by decide +kernel
theorem dL_tour_517 : decode cL_tour 517 = .ok (.if_icmp .lt 12, 3) := by decide +kernel
theorem dL_tour_520 : decode cL_tour 520 = .ok (.aload_n 0, 1) := by decide +kernel
theorem dL_tour_521 : decode cL_tour 521 = .ok (.iload_n 1, 1) := by decide +kernel
theorem dL_tour_522 : decode cL_tour 522 = .ok (.iconst 5, 1) := by decide +kernel
theorem dL_tour_523 : decode cL_tour 523 = .ok (.invokevirtual 23, 3) := by decide +kernel
theorem dL_tour_526 : decode cL_tour 526 = .ok (.ifCond .ne 113, 3) := by decide +kernel
theorem dL_tour_529 : decode cL_tour 529 = .ok (.iload 10, 2) := by decide +kernel
theorem dL_tour_531 : decode cL_tour 531 = .ok (.iconst 3, 1) := by decide +kernel
theorem dL_tour_532 : decode cL_tour 532 = .ok (.if_icmp .ne 21, 3) := by decide +kernel
theorem dL_tour_535 : decode cL_tour 535 = .ok (.aload_n 0, 1) := by decide +kernel
theorem dL_tour_536 : decode cL_tour 536 = .ok (.iload_n 1, 1) := by decide +kernel
theorem dL_tour_537 : decode cL_tour 537 = .ok (.iconst 3, 1) := by decide +kernel
theorem dL_tour_538 : decode cL_tour 538 = .ok (.invokevirtual 23, 3) := by decide +kernel
theorem dL_tour_541 : decode cL_tour 541 = .ok (.ifCond .ne 98, 3) := by decide +kernel
theorem dL_tour_544 : decode cL_tour 544 = .ok (.aload_n 0, 1) := by decide +kernel
theorem dL_tour_545 : decode cL_tour 545 = .ok (.iload_n 1, 1) := by decide +kernel
theorem dL_tour_546 : decode cL_tour 546 = .ok (.iconst 4, 1) := by decide +kernel
theorem dL_tour_547 : decode cL_tour 547 = .ok (.invokevirtual 23, 3) := by decide +kernel
theorem dL_tour_550 : decode cL_tour 550 = .ok (.ifCond .ne 89, 3) := by decide +kernel
theorem dL_tour_553 : decode cL_tour 553 = .ok (.iload 10, 2) := by decide +kernel
theorem dL_tour_555 : decode cL_tour 555 = .ok (.ifCond .ne 17, 3) := by decide +kernel
theorem dL_tour_558 : decode cL_tour 558 = .ok (.aload_n 0, 1) := by decide +kernel
theorem dL_tour_559 : decode cL_tour 559 = .ok (.iload_n 1, 1) := by decide +kernel
theorem dL_tour_560 : decode cL_tour 560 = .ok (.iconst 0, 1) := by decide +kernel
theorem dL_tour_561 : decode cL_tour 561 = .ok (.invokevirtual 23, 3) := by decide +kernel
theorem dL_tour_564 : decode cL_tour 564 = .ok (.aload_n 0, 1) := by decide +kernel
theorem dL_tour_565 : decode cL_tour 565 = .ok (.iconst 0, 1) := by decide +kernel
theorem dL_tour_566 : decode cL_tour 566 = .ok (.invokevirtual 13, 3) := by decide +kernel
theorem dL_tour_569 : decode cL_tour 569 = .ok (.if_icmp .lt 70, 3) := by decide +kernel
theorem dL_tour_572 : decode cL_tour 572 = .ok (.aload_n 0, 1) := by decide +kernel
theorem dL_tour_573 : decode cL_tour 573 = .ok (.iload_n 1, 1) := by decide +kernel
theorem dL_tour_574 : decode cL_tour 574 = .ok (.iconst 4, 1) := by decide +kernel
theorem dL_tour_575 : decode cL_tour 575 = .ok (.invokevirtual 23, 3) := by decide +kernel
theorem dL_tour_578 : decode cL_tour 578 = .ok (.iconst 4, 1) := by decide +kernel
theorem dL_tour_579 : decode cL_tour 579 = .ok (.if_icmp .gt 60, 3) := by decide +kernel
theorem dL_tour_582 : decode cL_tour 582 = .ok (.aload_n 0, 1) := by decide +kernel
theorem dL_tour_583 : decode cL_tour 583 = .ok (.iload_n 1, 1) := by decide +kernel
theorem dL_tour_584 : decode cL_tour 584 = .ok (.iconst 3, 1) := by decide +kernel
theorem dL_tour_585 : decode cL_tour 585 = .ok (.invokevirtual 23, 3) := by decide +kernel
theorem dL_tour_588 : decode cL_tour 588 = .ok (.bipush 12, 2) := by decide +kernel
theorem dL_tour_590 : decode cL_tour 590 = .ok (.if_icmp .gt 49, 3) := by decide +kernel
theorem dL_tour_593 : decode cL_tour 593 = .ok (.aload_n 0, 1) := by decide +kernel
theorem dL_tour_594 : decode cL_tour 594 = .ok (.iload_n 1, 1) := by decide +kernel
theorem dL_tour_595 : decode cL_tour 595 = .ok (.aload_n 0, 1) := by decide +kernel
theorem dL_tour_596 : decode cL_tour 596 = .ok (.iload_n 1, 1) := by decide +kernel
theorem dL_tour_597 : decode cL_tour 597 = .ok (.iconst 4, 1) := by decide +kernel
theorem dL_tour_598 : decode cL_tour 598 = .ok (.invokevirtual 23, 3) := by decide +kernel
theorem dL_tour_601 : decode cL_tour 601 = .ok (.iconst 0, 1) := by decide +kernel
theorem dL_tour_602 : decode cL_tour 602 = .ok (.invokevirtual 28, 3) := by decide +kernel
theorem dL_tour_605 : decode cL_tour 605 = .ok (.bipush (-5), 2) := by decide +kernel
theorem dL_tour_607 : decode cL_tour 607 = .ok (.if_icmp .ne 32, 3) := by decide +kernel
theorem dL_tour_610 : decode cL_tour 610 = .ok (.aload_n 0, 1) := by decide +kernel
theorem dL_tour_611 : decode cL_tour 611 = .ok (.iload_n 1, 1) := by decide +kernel
theorem dL_tour_612 : decode cL_tour 612 = .ok (.bipush 11, 2) := by decide +kernel
theorem dL_tour_614 : decode cL_tour 614 = .ok (.invokevirtual 23, 3) := by decide +kernel
theorem dL_tour_617 : decode cL_tour 617 = .ok (.bipush (-2), 2) := by decide +kernel
theorem dL_tour_619 : decode cL_tour 619 = .ok (.if_icmp .ne 20, 3) := by decide +kernel
theorem dL_tour_622 : decode cL_tour 622 = .ok (.iload 11, 2) := by decide +kernel
theorem dL_tour_624 : decode cL_tour 624 = .ok (.ifCond .eq 11, 3) := by decide +kernel
theorem dL_tour_627 : decode cL_tour 627 = .ok (.aload_n 0, 1) := by decide +kernel
theorem dL_tour_628 : decode cL_tour 628 = .ok (.iconst 1, 1) := by decide +kernel
theorem dL_tour_629 : decode cL_tour 629 = .ok (.invokevirtual 13, 3) := by decide +kernel
theorem dL_tour_632 : decode cL_tour 632 = .ok (.ifCond .le 7, 3) := by decide +kernel
theorem dL_tour_635 : decode cL_tour 635 = .ok (.iconst 1, 1) := by decide +kernel
theorem dL_tour_636 : decode cL_tour 636 = .ok (.goto 4, 3) := by decide +kernel
theorem dL_tour_639 : decode cL_tour 639 = .ok (.iconst 0, 1) := by decide +kernel
theorem dL_tour_640 : decode cL_tour 640 = .ok (.ireturn, 1) := by decide +kernel
theorem dL_accounts_0 : decode cL_accounts 0 = .ok (.iconst 4, 1) := by decide +kernel
theorem dL_accounts_1 : decode cL_accounts 1 = .ok (.newarray .int, 2) := by decide +kernel
theorem dL_accounts_3 : decode cL_accounts 3 = .ok (.astore_n 1, 1) := by decide +kernel
theorem dL_accounts_4 : decode cL_accounts 4 = .ok (.iconst 0, 1) := by decide +kernel
theorem dL_accounts_5 : decode cL_accounts 5 = .ok (.istore_n 2, 1) := by decide +kernel
theorem dL_accounts_6 : decode cL_accounts 6 = .ok (.iconst 0, 1) := by decide +kernel
theorem dL_accounts_7 : decode cL_accounts 7 = .ok (.istore_n 3, 1) := by decide +kernel
theorem dL_accounts_8 : decode cL_accounts 8 = .ok (.iconst 0, 1) := by decide +kernel
theorem dL_accounts_9 : decode cL_accounts 9 = .ok (.istore 4, 2) := by decide +kernel
theorem dL_accounts_11 : decode cL_accounts 11 = .ok (.iconst 0, 1) := by decide +kernel
theorem dL_accounts_12 : decode cL_accounts 12 = .ok (.istore 5, 2) := by decide +kernel
theorem dL_accounts_14 : decode cL_accounts 14 = .ok (.iconst 0, 1) := by decide +kernel
theorem dL_accounts_15 : decode cL_accounts 15 = .ok (.istore 6, 2) := by decide +kernel
theorem dL_accounts_17 : decode cL_accounts 17 = .ok (.iload 6, 2) := by decide +kernel
theorem dL_accounts_19 : decode cL_accounts 19 = .ok (.aload_n 0, 1) := by decide +kernel
theorem dL_accounts_20 : decode cL_accounts 20 = .ok (.iconst 3, 1) := by decide +kernel
theorem dL_accounts_21 : decode cL_accounts 21 = .ok (.invokevirtual 13, 3) := by decide +kernel
theorem dL_accounts_24 : decode cL_accounts 24 = .ok (.if_icmp .ge 87, 3) := by decide +kernel
theorem dL_accounts_27 : decode cL_accounts 27 = .ok (.aload_n 1, 1) := by decide +kernel
theorem dL_accounts_28 : decode cL_accounts 28 = .ok (.aload_n 0, 1) := by decide +kernel
theorem dL_accounts_29 : decode cL_accounts 29 = .ok (.iload 6, 2) := by decide +kernel
theorem dL_accounts_31 : decode cL_accounts 31 = .ok (.bipush 6, 2) := by decide +kernel
theorem dL_accounts_33 : decode cL_accounts 33 = .ok (.invokevirtual 23, 3) := by decide +kernel
theorem dL_accounts_36 : decode cL_accounts 36 = .ok (.dup2, 1) := by decide +kernel
theorem dL_accounts_37 : decode cL_accounts 37 = .ok (.iaload, 1) := by decide +kernel
theorem dL_accounts_38 : decode cL_accounts 38 = .ok (.iconst 1, 1) := by decide +kernel
theorem dL_accounts_39 : decode cL_accounts 39 = .ok (.iadd, 1) := by decide +kernel
theorem dL_accounts_40 : decode cL_accounts 40 = .ok (.iastore, 1) := by decide +kernel
theorem dL_accounts_41 : decode cL_accounts 41 = .ok (.iload_n 2, 1) := by decide +kernel
theorem dL_accounts_42 : decode cL_accounts 42 = .ok (.aload_n 0, 1) := by decide +kernel
theorem dL_accounts_43 : decode cL_accounts 43 = .ok (.iload 6, 2) := by decide +kernel
theorem dL_accounts_45 : decode cL_accounts 45 = .ok (.iconst 5, 1) := by decide +kernel
theorem dL_accounts_46 : decode cL_accounts 46 = .ok (.invokevirtual 23, 3) := by decide +kernel
theorem dL_accounts_49 : decode cL_accounts 49 = .ok (.iadd, 1) := by decide +kernel
theorem dL_accounts_50 : decode cL_accounts 50 = .ok (.istore_n 2, 1) := by decide +kernel
theorem dL_accounts_51 : decode cL_accounts 51 = .ok (.iload_n 3, 1) := by decide +kernel
theorem dL_accounts_52 : decode cL_accounts 52 = .ok (.aload_n 0, 1) := by decide +kernel
theorem dL_accounts_53 : decode cL_accounts 53 = .ok (.iload 6, 2) := by decide +kernel
theorem dL_accounts_55 : decode cL_accounts 55 = .ok (.bipush 6, 2) := by decide +kernel
theorem dL_accounts_57 : decode cL_accounts 57 = .ok (.invokevirtual 23, 3) := by decide +kernel
theorem dL_accounts_60 : decode cL_accounts 60 = .ok (.iconst 1, 1) := by decide +kernel
theorem dL_accounts_61 : decode cL_accounts 61 = .ok (.if_icmp .ne 13, 3) := by decide +kernel
theorem dL_accounts_64 : decode cL_accounts 64 = .ok (.aload_n 0, 1) := by decide +kernel
theorem dL_accounts_65 : decode cL_accounts 65 = .ok (.iload 6, 2) := by decide +kernel
theorem dL_accounts_67 : decode cL_accounts 67 = .ok (.iconst 3, 1) := by decide +kernel
theorem dL_accounts_68 : decode cL_accounts 68 = .ok (.invokevirtual 23, 3) := by decide +kernel
theorem dL_accounts_71 : decode cL_accounts 71 = .ok (.goto 4, 3) := by decide +kernel
theorem dL_accounts_74 : decode cL_accounts 74 = .ok (.iconst 0, 1) := by decide +kernel
theorem dL_accounts_75 : decode cL_accounts 75 = .ok (.iadd, 1) := by decide +kernel
theorem dL_accounts_76 : decode cL_accounts 76 = .ok (.istore_n 3, 1) := by decide +kernel
theorem dL_accounts_77 : decode cL_accounts 77 = .ok (.iload 5, 2) := by decide +kernel
theorem dL_accounts_79 : decode cL_accounts 79 = .ok (.aload_n 0, 1) := by decide +kernel
theorem dL_accounts_80 : decode cL_accounts 80 = .ok (.iload 6, 2) := by decide +kernel
theorem dL_accounts_82 : decode cL_accounts 82 = .ok (.bipush 6, 2) := by decide +kernel
theorem dL_accounts_84 : decode cL_accounts 84 = .ok (.invokevirtual 23, 3) := by decide +kernel
theorem dL_accounts_87 : decode cL_accounts 87 = .ok (.iconst 1, 1) := by decide +kernel
theorem dL_accounts_88 : decode cL_accounts 88 = .ok (.if_icmp .ne 13, 3) := by decide +kernel
theorem dL_accounts_91 : decode cL_accounts 91 = .ok (.aload_n 0, 1) := by decide +kernel
theorem dL_accounts_92 : decode cL_accounts 92 = .ok (.iload 6, 2) := by decide +kernel
theorem dL_accounts_94 : decode cL_accounts 94 = .ok (.iconst 4, 1) := by decide +kernel
theorem dL_accounts_95 : decode cL_accounts 95 = .ok (.invokevirtual 23, 3) := by decide +kernel
theorem dL_accounts_98 : decode cL_accounts 98 = .ok (.goto 4, 3) := by decide +kernel
theorem dL_accounts_101 : decode cL_accounts 101 = .ok (.iconst 0, 1) := by decide +kernel
theorem dL_accounts_102 : decode cL_accounts 102 = .ok (.iadd, 1) := by decide +kernel
theorem dL_accounts_103 : decode cL_accounts 103 = .ok (.istore 5, 2) := by decide +kernel
theorem dL_accounts_105 : decode cL_accounts 105 = .ok (.iinc 6 1, 3) := by decide +kernel
theorem dL_accounts_108 : decode cL_accounts 108 = .ok (.goto (-91), 3) := by decide +kernel
theorem dL_accounts_111 : decode cL_accounts 111 = .ok (.iconst 0, 1) := by decide +kernel
theorem dL_accounts_112 : decode cL_accounts 112 = .ok (.istore 6, 2) := by decide +kernel
theorem dL_accounts_114 : decode cL_accounts 114 = .ok (.iload 6, 2) := by decide +kernel
theorem dL_accounts_116 : decode cL_accounts 116 = .ok (.aload_n 0, 1) := by decide +kernel
theorem dL_accounts_117 : decode cL_accounts 117 = .ok (.iconst 1, 1) := by decide +kernel
theorem dL_accounts_118 : decode cL_accounts 118 = .ok (.invokevirtual 13, 3) := by decide +kernel
theorem dL_accounts_121 : decode cL_accounts 121 = .ok (.if_icmp .ge 205, 3) := by decide +kernel
theorem dL_accounts_124 : decode cL_accounts 124 = .ok (.bipush (-5), 2) := by decide +kernel
theorem dL_accounts_126 : decode cL_accounts 126 = .ok (.istore 7, 2) := by decide +kernel
theorem dL_accounts_128 : decode cL_accounts 128 = .ok (.aload_n 0, 1) := by decide +kernel
theorem dL_accounts_129 : decode cL_accounts 129 = .ok (.iconst 3, 1) := by decide +kernel
theorem dL_accounts_130 : decode cL_accounts 130 = .ok (.invokevirtual 13, 3) := by decide +kernel
theorem dL_accounts_133 : decode cL_accounts 133 = .ok (.iconst 1, 1) := by decide +kernel
theorem dL_accounts_134 : decode cL_accounts 134 = .ok (.isub, 1) := by decide +kernel
theorem dL_accounts_135 : decode cL_accounts 135 = .ok (.istore 8, 2) := by decide +kernel
theorem dL_accounts_137 : decode cL_accounts 137 = .ok (.iload 8, 2) := by decide +kernel
theorem dL_accounts_139 : decode cL_accounts 139 = .ok (.ifCond .lt 64, 3) := by decide +kernel
theorem dL_accounts_142 : decode cL_accounts 142 = .ok (.iconst 0, 1) := by decide +kernel
theorem dL_accounts_143 : decode cL_accounts 143 = .ok (.istore 9, 2) := by decide +kernel
theorem dL_accounts_145 : decode cL_accounts 145 = .ok (.iload 9, 2) := by decide +kernel
theorem dL_accounts_147 : decode cL_accounts 147 = .ok (.aload_n 0, 1) := by decide +kernel
theorem dL_accounts_148 : decode cL_accounts 148 = .ok (.iload 8, 2) := by decide +kernel
theorem dL_accounts_150 : decode cL_accounts 150 = .ok (.iconst 4, 1) := by decide +kernel
theorem dL_accounts_151 : decode cL_accounts 151 = .ok (.invokevirtual 23, 3) := by decide +kernel
theorem dL_accounts_154 : decode cL_accounts 154 = .ok (.if_icmp .ge 43, 3) := by decide +kernel
theorem dL_accounts_157 : decode cL_accounts 157 = .ok (.aload_n 0, 1) := by decide +kernel
theorem dL_accounts_158 : decode cL_accounts 158 = .ok (.iload 8, 2) := by decide +kernel
theorem dL_accounts_160 : decode cL_accounts 160 = .ok (.bipush 6, 2) := by decide +kernel
theorem dL_accounts_162 : decode cL_accounts 162 = .ok (.invokevirtual 23, 3) := by decide +kernel
theorem dL_accounts_165 : decode cL_accounts 165 = .ok (.ifCond .ne 32, 3) := by decide +kernel
theorem dL_accounts_168 : decode cL_accounts 168 = .ok (.aload_n 0, 1) := by decide +kernel
theorem dL_accounts_169 : decode cL_accounts 169 = .ok (.iload 8, 2) := by decide +kernel
theorem dL_accounts_171 : decode cL_accounts 171 = .ok (.iload 9, 2) := by decide +kernel
theorem dL_accounts_173 : decode cL_accounts 173 = .ok (.iconst 0, 1) := by decide +kernel
theorem dL_accounts_174 : decode cL_accounts 174 = .ok (.invokevirtual 28, 3) := by decide +kernel
theorem dL_accounts_177 : decode cL_accounts 177 = .ok (.iload 6, 2) := by decide +kernel
theorem dL_accounts_179 : decode cL_accounts 179 = .ok (.if_icmp .ne 8, 3) := by decide +kernel
theorem dL_accounts_182 : decode cL_accounts 182 = .ok (.iload 8, 2) := by decide +kernel
theorem dL_accounts_184 : decode cL_accounts 184 = .ok (.goto 5, 3) := by decide +kernel
theorem dL_accounts_187 : decode cL_accounts 187 = .ok (.iload 7, 2) := by decide +kernel
theorem dL_accounts_189 : decode cL_accounts 189 = .ok (.istore 7, 2) := by decide +kernel
theorem dL_accounts_191 : decode cL_accounts 191 = .ok (.iinc 9 1, 3) := by decide +kernel
theorem dL_accounts_194 : decode cL_accounts 194 = .ok (.goto (-49), 3) := by decide +kernel
theorem dL_accounts_197 : decode cL_accounts 197 = .ok (.iinc 8 (-1), 3) := by decide +kernel
theorem dL_accounts_200 : decode cL_accounts 200 = .ok (.goto (-63), 3) := by decide +kernel
theorem dL_accounts_203 : decode cL_accounts 203 = .ok (.iload 4, 2) := by decide +kernel
theorem dL_accounts_205 : decode cL_accounts 205 = .ok (.aload_n 0, 1) := by decide +kernel
theorem dL_accounts_206 : decode cL_accounts 206 = .ok (.iload 6, 2) := by decide +kernel
theorem dL_accounts_208 : decode cL_accounts 208 = .ok (.iconst 5, 1) := by decide +kernel
theorem dL_accounts_209 : decode cL_accounts 209 = .ok (.invokevirtual 19, 3) := by decide +kernel
theorem dL_accounts_212 : decode cL_accounts 212 = .ok (.iadd, 1) := by decide +kernel
theorem dL_accounts_213 : decode cL_accounts 213 = .ok (.istore 4, 2) := by decide +kernel
theorem dL_accounts_215 : decode cL_accounts 215 = .ok (.iload 5, 2) := by decide +kernel
theorem dL_accounts_217 : decode cL_accounts 217 = .ok (.aload_n 0, 1) := by decide +kernel
theorem dL_accounts_218 : decode cL_accounts 218 = .ok (.iload 6, 2) := by decide +kernel
theorem dL_accounts_220 : decode cL_accounts 220 = .ok (.iconst 4, 1) := by decide +kernel
theorem dL_accounts_221 : decode cL_accounts 221 = .ok (.invokevirtual 19, 3) := by decide +kernel
theorem dL_accounts_224 : decode cL_accounts 224 = .ok (.isub, 1) := by decide +kernel
theorem dL_accounts_225 : decode cL_accounts 225 = .ok (.istore 5, 2) := by decide +kernel
theorem dL_accounts_227 : decode cL_accounts 227 = .ok (.aload_n 0, 1) := by decide +kernel
theorem dL_accounts_228 : decode cL_accounts 228 = .ok (.iload 6, 2) := by decide +kernel
theorem dL_accounts_230 : decode cL_accounts 230 = .ok (.iconst 3, 1) := by decide +kernel
theorem dL_accounts_231 : decode cL_accounts 231 = .ok (.invokevirtual 19, 3) := by decide +kernel
theorem dL_accounts_234 : decode cL_accounts 234 = .ok (.iload 7, 2) := by decide +kernel
theorem dL_accounts_236 : decode cL_accounts 236 = .ok (.if_icmp .ne 82, 3) := by decide +kernel
theorem dL_accounts_239 : decode cL_accounts 239 = .ok (.aload_n 0, 1) := by decide +kernel
theorem dL_accounts_240 : decode cL_accounts 240 = .ok (.iload 6, 2) := by decide +kernel
theorem dL_accounts_242 : decode cL_accounts 242 = .ok (.iconst 2, 1) := by decide +kernel
theorem dL_accounts_243 : decode cL_accounts 243 = .ok (.invokevirtual 19, 3) := by decide +kernel
theorem dL_accounts_246 : decode cL_accounts 246 = .ok (.aload_n 0, 1) := by decide +kernel
theorem dL_accounts_247 : decode cL_accounts 247 = .ok (.iload 6, 2) := by decide +kernel
theorem dL_accounts_249 : decode cL_accounts 249 = .ok (.iconst 1, 1) := by decide +kernel
theorem dL_accounts_250 : decode cL_accounts 250 = .ok (.invokevirtual 19, 3) := by decide +kernel
theorem dL_accounts_253 : decode cL_accounts 253 = .ok (.aload_n 0, 1) := by decide +kernel
theorem dL_accounts_254 : decode cL_accounts 254 = .ok (.iconst 0, 1) := by decide +kernel
theorem dL_accounts_255 : decode cL_accounts 255 = .ok (.invokevirtual 13, 3) := by decide +kernel
theorem dL_accounts_258 : decode cL_accounts 258 = .ok (.if_icmp .lt 7, 3) := by decide +kernel
theorem dL_accounts_261 : decode cL_accounts 261 = .ok (.iconst 1, 1) := by decide +kernel
theorem dL_accounts_262 : decode cL_accounts 262 = .ok (.goto 4, 3) := by decide +kernel
theorem dL_accounts_265 : decode cL_accounts 265 = .ok (.iconst 0, 1) := by decide +kernel
theorem dL_accounts_266 : decode cL_accounts 266 = .ok (.if_icmp .ne 52, 3) := by decide +kernel
theorem dL_accounts_269 : decode cL_accounts 269 = .ok (.aload_n 0, 1) := by decide +kernel
theorem dL_accounts_270 : decode cL_accounts 270 = .ok (.aload_n 0, 1) := by decide +kernel
theorem dL_accounts_271 : decode cL_accounts 271 = .ok (.iload 6, 2) := by decide +kernel
theorem dL_accounts_273 : decode cL_accounts 273 = .ok (.iconst 0, 1) := by decide +kernel
theorem dL_accounts_274 : decode cL_accounts 274 = .ok (.invokevirtual 19, 3) := by decide +kernel
theorem dL_accounts_277 : decode cL_accounts 277 = .ok (.iload 6, 2) := by decide +kernel
theorem dL_accounts_279 : decode cL_accounts 279 = .ok (.invokevirtual 52, 3) := by decide +kernel
theorem dL_accounts_282 : decode cL_accounts 282 = .ok (.iconst 1, 1) := by decide +kernel
theorem dL_accounts_283 : decode cL_accounts 283 = .ok (.if_icmp .ne 35, 3) := by decide +kernel
theorem dL_accounts_286 : decode cL_accounts 286 = .ok (.aload_n 0, 1) := by decide +kernel
theorem dL_accounts_287 : decode cL_accounts 287 = .ok (.iconst 1, 1) := by decide +kernel
theorem dL_accounts_288 : decode cL_accounts 288 = .ok (.aload_n 0, 1) := by decide +kernel
theorem dL_accounts_289 : decode cL_accounts 289 = .ok (.iload 6, 2) := by decide +kernel
theorem dL_accounts_291 : decode cL_accounts 291 = .ok (.iconst 0, 1) := by decide +kernel
theorem dL_accounts_292 : decode cL_accounts 292 = .ok (.invokevirtual 19, 3) := by decide +kernel
theorem dL_accounts_295 : decode cL_accounts 295 = .ok (.iconst 3, 1) := by decide +kernel
theorem dL_accounts_296 : decode cL_accounts 296 = .ok (.irem, 1) := by decide +kernel
theorem dL_accounts_297 : decode cL_accounts 297 = .ok (.iadd, 1) := by decide +kernel
theorem dL_accounts_298 : decode cL_accounts 298 = .ok (.iload 6, 2) := by decide +kernel
theorem dL_accounts_300 : decode cL_accounts 300 = .ok (.invokevirtual 52, 3) := by decide +kernel
theorem dL_accounts_303 : decode cL_accounts 303 = .ok (.ifCond .ne 15, 3) := by decide +kernel
theorem dL_accounts_306 : decode cL_accounts 306 = .ok (.aload_n 0, 1) := by decide +kernel
theorem dL_accounts_307 : decode cL_accounts 307 = .ok (.iconst 4, 1) := by decide +kernel
theorem dL_accounts_308 : decode cL_accounts 308 = .ok (.iload 6, 2) := by decide +kernel
theorem dL_accounts_310 : decode cL_accounts 310 = .ok (.invokevirtual 52, 3) := by decide +kernel
theorem dL_accounts_313 : decode cL_accounts 313 = .ok (.bipush (-2), 2) := by decide +kernel
theorem dL_accounts_315 : decode cL_accounts 315 = .ok (.if_icmp .eq 5, 3) := by decide +kernel
theorem dL_accounts_318 : decode cL_accounts 318 = .ok (.iconst 0, 1) := by decide +kernel
theorem dL_accounts_319 : decode cL_accounts 319 = .ok (.ireturn, 1) := by decide +kernel
theorem dL_accounts_320 : decode cL_accounts 320 = .ok (.iinc 6 1, 3) := by decide +kernel
theorem dL_accounts_323 : decode cL_accounts 323 = .ok (.goto (-209), 3) := by decide +kernel
theorem dL_accounts_326 : decode cL_accounts 326 = .ok (.iconst 0, 1) := by decide +kernel
theorem dL_accounts_327 : decode cL_accounts 327 = .ok (.istore 6, 2) := by decide +kernel
theorem dL_accounts_329 : decode cL_accounts 329 = .ok (.iload 6, 2) := by decide +kernel
theorem dL_accounts_331 : decode cL_accounts 331 = .ok (.iconst 4, 1) := by decide +kernel
theorem dL_accounts_332 : decode cL_accounts 332 = .ok (.if_icmp .ge 26, 3) := by decide +kernel
theorem dL_accounts_335 : decode cL_accounts 335 = .ok (.aload_n 0, 1) := by decide +kernel
theorem dL_accounts_336 : decode cL_accounts 336 = .ok (.iconst 4, 1) := by decide +kernel
theorem dL_accounts_337 : decode cL_accounts 337 = .ok (.iload 6, 2) := by decide +kernel
theorem dL_accounts_339 : decode cL_accounts 339 = .ok (.iadd, 1) := by decide +kernel
theorem dL_accounts_340 : decode cL_accounts 340 = .ok (.invokevirtual 13, 3) := by decide +kernel
theorem dL_accounts_343 : decode cL_accounts 343 = .ok (.aload_n 1, 1) := by decide +kernel
theorem dL_accounts_344 : decode cL_accounts 344 = .ok (.iload 6, 2) := by decide +kernel
theorem dL_accounts_346 : decode cL_accounts 346 = .ok (.iaload, 1) := by decide +kernel
theorem dL_accounts_347 : decode cL_accounts 347 = .ok (.if_icmp .eq 5, 3) := by decide +kernel
theorem dL_accounts_350 : decode cL_accounts 350 = .ok (.iconst 0, 1) := by decide +kernel
theorem dL_accounts_351 : decode cL_accounts 351 = .ok (.ireturn, 1) := by decide +kernel
theorem dL_accounts_352 : decode cL_accounts 352 = .ok (.iinc 6 1, 3) := by decide +kernel
theorem dL_accounts_355 : decode cL_accounts 355 = .ok (.goto (-26), 3) := by decide +kernel
theorem dL_accounts_358 : decode cL_accounts 358 = .ok (.aload_n 0, 1) := by decide +kernel
theorem dL_accounts_359 : decode cL_accounts 359 = .ok (.bipush 8, 2) := by decide +kernel
theorem dL_accounts_361 : decode cL_accounts 361 = .ok (.invokevirtual 13, 3) := by decide +kernel
theorem dL_accounts_364 : decode cL_accounts 364 = .ok (.iload_n 2, 1) := by decide +kernel
theorem dL_accounts_365 : decode cL_accounts 365 = .ok (.if_icmp .ne 67, 3) := by decide +kernel
theorem dL_accounts_368 : decode cL_accounts 368 = .ok (.aload_n 0, 1) := by decide +kernel
theorem dL_accounts_369 : decode cL_accounts 369 = .ok (.bipush 10, 2) := by decide +kernel
theorem dL_accounts_371 : decode cL_accounts 371 = .ok (.invokevirtual 13, 3) := by decide +kernel
theorem dL_accounts_374 : decode cL_accounts 374 = .ok (.iload_n 3, 1) := by decide +kernel
theorem dL_accounts_375 : decode cL_accounts 375 = .ok (.if_icmp .ne 57, 3) := by decide +kernel
theorem dL_accounts_378 : decode cL_accounts 378 = .ok (.iload 4, 2) := by decide +kernel
theorem dL_accounts_380 : decode cL_accounts 380 = .ok (.iload_n 3, 1) := by decide +kernel
theorem dL_accounts_381 : decode cL_accounts 381 = .ok (.if_icmp .ne 51, 3) := by decide +kernel
theorem dL_accounts_384 : decode cL_accounts 384 = .ok (.iload 5, 2) := by decide +kernel
theorem dL_accounts_386 : decode cL_accounts 386 = .ok (.ifCond .ne 46, 3) := by decide +kernel
theorem dL_accounts_389 : decode cL_accounts 389 = .ok (.aload_n 0, 1) := by decide +kernel
theorem dL_accounts_390 : decode cL_accounts 390 = .ok (.aload_n 0, 1) := by decide +kernel
theorem dL_accounts_391 : decode cL_accounts 391 = .ok (.iconst 1, 1) := by decide +kernel
theorem dL_accounts_392 : decode cL_accounts 392 = .ok (.invokevirtual 13, 3) := by decide +kernel
theorem dL_accounts_395 : decode cL_accounts 395 = .ok (.iconst 0, 1) := by decide +kernel
theorem dL_accounts_396 : decode cL_accounts 396 = .ok (.invokevirtual 19, 3) := by decide +kernel
theorem dL_accounts_399 : decode cL_accounts 399 = .ok (.iconst (-1), 1) := by decide +kernel
theorem dL_accounts_400 : decode cL_accounts 400 = .ok (.if_icmp .ne 32, 3) := by decide +kernel
theorem dL_accounts_403 : decode cL_accounts 403 = .ok (.aload_n 0, 1) := by decide +kernel
theorem dL_accounts_404 : decode cL_accounts 404 = .ok (.aload_n 0, 1) := by decide +kernel
theorem dL_accounts_405 : decode cL_accounts 405 = .ok (.iconst 3, 1) := by decide +kernel
theorem dL_accounts_406 : decode cL_accounts 406 = .ok (.invokevirtual 13, 3) := by decide +kernel
theorem dL_accounts_409 : decode cL_accounts 409 = .ok (.iconst 0, 1) := by decide +kernel
theorem dL_accounts_410 : decode cL_accounts 410 = .ok (.invokevirtual 23, 3) := by decide +kernel
theorem dL_accounts_413 : decode cL_accounts 413 = .ok (.iconst (-1), 1) := by decide +kernel
theorem dL_accounts_414 : decode cL_accounts 414 = .ok (.if_icmp .ne 18, 3) := by decide +kernel
theorem dL_accounts_417 : decode cL_accounts 417 = .ok (.aload_n 0, 1) := by decide +kernel
theorem dL_accounts_418 : decode cL_accounts 418 = .ok (.bipush 13, 2) := by decide +kernel
theorem dL_accounts_420 : decode cL_accounts 420 = .ok (.invokevirtual 13, 3) := by decide +kernel
theorem dL_accounts_423 : decode cL_accounts 423 = .ok (.bipush (-2), 2) := by decide +kernel
theorem dL_accounts_425 : decode cL_accounts 425 = .ok (.if_icmp .ne 7, 3) := by decide +kernel
theorem dL_accounts_428 : decode cL_accounts 428 = .ok (.iconst 1, 1) := by decide +kernel
theorem dL_accounts_429 : decode cL_accounts 429 = .ok (.goto 4, 3) := by decide +kernel
theorem dL_accounts_432 : decode cL_accounts 432 = .ok (.iconst 0, 1) := by decide +kernel
theorem dL_accounts_433 : decode cL_accounts 433 = .ok (.ireturn, 1) := by decide +kernel
theorem dL_bits_0 : decode cL_bits 0 = .ok (.iload_n 0, 1) := by decide +kernel
theorem dL_bits_1 : decode cL_bits 1 = .ok (.ifCond .ne 7, 3) := by decide +kernel
theorem dL_bits_4 : decode cL_bits 4 = .ok (.lconst 0, 1) := by decide +kernel
theorem dL_bits_5 : decode cL_bits 5 = .ok (.goto 50, 3) := by decide +kernel
theorem dL_bits_8 : decode cL_bits 8 = .ok (.iload_n 0, 1) := by decide +kernel
theorem dL_bits_9 : decode cL_bits 9 = .ok (.iconst 1, 1) := by decide +kernel
theorem dL_bits_10 : decode cL_bits 10 = .ok (.if_icmp .ne 9, 3) := by decide +kernel
theorem dL_bits_13 : decode cL_bits 13 = .ok (.ldc2_w 55, 3) := by decide +kernel
theorem dL_bits_16 : decode cL_bits 16 = .ok (.goto 39, 3) := by decide +kernel
theorem dL_bits_19 : decode cL_bits 19 = .ok (.iload_n 0, 1) := by decide +kernel
theorem dL_bits_20 : decode cL_bits 20 = .ok (.iconst 2, 1) := by decide +kernel
theorem dL_bits_21 : decode cL_bits 21 = .ok (.if_icmp .ne 9, 3) := by decide +kernel
theorem dL_bits_24 : decode cL_bits 24 = .ok (.ldc2_w 57, 3) := by decide +kernel
theorem dL_bits_27 : decode cL_bits 27 = .ok (.goto 28, 3) := by decide +kernel
theorem dL_bits_30 : decode cL_bits 30 = .ok (.iload_n 0, 1) := by decide +kernel
theorem dL_bits_31 : decode cL_bits 31 = .ok (.iconst 3, 1) := by decide +kernel
theorem dL_bits_32 : decode cL_bits 32 = .ok (.if_icmp .ne 9, 3) := by decide +kernel
theorem dL_bits_35 : decode cL_bits 35 = .ok (.ldc2_w 59, 3) := by decide +kernel
theorem dL_bits_38 : decode cL_bits 38 = .ok (.goto 17, 3) := by decide +kernel
theorem dL_bits_41 : decode cL_bits 41 = .ok (.iload_n 0, 1) := by decide +kernel
theorem dL_bits_42 : decode cL_bits 42 = .ok (.iconst 4, 1) := by decide +kernel
theorem dL_bits_43 : decode cL_bits 43 = .ok (.if_icmp .ne 9, 3) := by decide +kernel
theorem dL_bits_46 : decode cL_bits 46 = .ok (.ldc2_w 61, 3) := by decide +kernel
theorem dL_bits_49 : decode cL_bits 49 = .ok (.goto 6, 3) := by decide +kernel
theorem dL_bits_52 : decode cL_bits 52 = .ok (.ldc2_w 63, 3) := by decide +kernel
theorem dL_bits_55 : decode cL_bits 55 = .ok (.lreturn, 1) := by decide +kernel
theorem dL_adds_0 : decode cL_adds 0 = .ok (.iload_n 1, 1) := by decide +kernel
theorem dL_adds_1 : decode cL_adds 1 = .ok (.ifCond .ne 61, 3) := by decide +kernel
theorem dL_adds_4 : decode cL_adds 4 = .ok (.aload_n 0, 1) := by decide +kernel
theorem dL_adds_5 : decode cL_adds 5 = .ok (.iconst 1, 1) := by decide +kernel
theorem dL_adds_6 : decode cL_adds 6 = .ok (.invokevirtual 13, 3) := by decide +kernel
theorem dL_adds_9 : decode cL_adds 9 = .ok (.istore 4, 2) := by decide +kernel
theorem dL_adds_11 : decode cL_adds 11 = .ok (.aload_n 0, 1) := by decide +kernel
theorem dL_adds_12 : decode cL_adds 12 = .ok (.iconst 1, 1) := by decide +kernel
theorem dL_adds_13 : decode cL_adds 13 = .ok (.iload_n 2, 1) := by decide +kernel
theorem dL_adds_14 : decode cL_adds 14 = .ok (.iconst 3, 1) := by decide +kernel
theorem dL_adds_15 : decode cL_adds 15 = .ok (.invokestatic 65, 3) := by decide +kernel
theorem dL_adds_18 : decode cL_adds 18 = .ok (.iadd, 1) := by decide +kernel
theorem dL_adds_19 : decode cL_adds 19 = .ok (.iload_n 3, 1) := by decide +kernel
theorem dL_adds_20 : decode cL_adds 20 = .ok (.bipush 60, 2) := by decide +kernel
theorem dL_adds_22 : decode cL_adds 22 = .ok (.invokestatic 65, 3) := by decide +kernel
theorem dL_adds_25 : decode cL_adds 25 = .ok (.invokevirtual 70, 3) := by decide +kernel
theorem dL_adds_28 : decode cL_adds 28 = .ok (.iload 4, 2) := by decide +kernel
theorem dL_adds_30 : decode cL_adds 30 = .ok (.bipush 8, 2) := by decide +kernel
theorem dL_adds_32 : decode cL_adds 32 = .ok (.if_icmp .ne 8, 3) := by decide +kernel
theorem dL_adds_35 : decode cL_adds 35 = .ok (.bipush (-3), 2) := by decide +kernel
theorem dL_adds_37 : decode cL_adds 37 = .ok (.goto 5, 3) := by decide +kernel
theorem dL_adds_40 : decode cL_adds 40 = .ok (.iload 4, 2) := by decide +kernel
theorem dL_adds_42 : decode cL_adds 42 = .ok (.if_icmp .ne 18, 3) := by decide +kernel
theorem dL_adds_45 : decode cL_adds 45 = .ok (.aload_n 0, 1) := by decide +kernel
theorem dL_adds_46 : decode cL_adds 46 = .ok (.iconst 4, 1) := by decide +kernel
theorem dL_adds_47 : decode cL_adds 47 = .ok (.iconst 0, 1) := by decide +kernel
theorem dL_adds_48 : decode cL_adds 48 = .ok (.invokevirtual 70, 3) := by decide +kernel
theorem dL_adds_51 : decode cL_adds 51 = .ok (.bipush (-2), 2) := by decide +kernel
theorem dL_adds_53 : decode cL_adds 53 = .ok (.if_icmp .ne 7, 3) := by decide +kernel
theorem dL_adds_56 : decode cL_adds 56 = .ok (.iconst 1, 1) := by decide +kernel
theorem dL_adds_57 : decode cL_adds 57 = .ok (.goto 4, 3) := by decide +kernel
theorem dL_adds_60 : decode cL_adds 60 = .ok (.iconst 0, 1) := by decide +kernel
theorem dL_adds_61 : decode cL_adds 61 = .ok (.ireturn, 1) := by decide +kernel
theorem dL_adds_62 : decode cL_adds 62 = .ok (.iload_n 1, 1) := by decide +kernel
theorem dL_adds_63 : decode cL_adds 63 = .ok (.iconst 1, 1) := by decide +kernel
theorem dL_adds_64 : decode cL_adds 64 = .ok (.if_icmp .ne 105, 3) := by decide +kernel
theorem dL_adds_67 : decode cL_adds 67 = .ok (.aload_n 0, 1) := by decide +kernel
theorem dL_adds_68 : decode cL_adds 68 = .ok (.iconst 2, 1) := by decide +kernel
theorem dL_adds_69 : decode cL_adds 69 = .ok (.invokevirtual 13, 3) := by decide +kernel
theorem dL_adds_72 : decode cL_adds 72 = .ok (.istore 4, 2) := by decide +kernel
theorem dL_adds_74 : decode cL_adds 74 = .ok (.iload_n 3, 1) := by decide +kernel
theorem dL_adds_75 : decode cL_adds 75 = .ok (.iconst 3, 1) := by decide +kernel
theorem dL_adds_76 : decode cL_adds 76 = .ok (.iand, 1) := by decide +kernel
theorem dL_adds_77 : decode cL_adds 77 = .ok (.ifCond .ne 9, 3) := by decide +kernel
theorem dL_adds_80 : decode cL_adds 80 = .ok (.ldc2_w 73, 3) := by decide +kernel
theorem dL_adds_83 : decode cL_adds 83 = .ok (.goto 19, 3) := by decide +kernel
theorem dL_adds_86 : decode cL_adds 86 = .ok (.iload_n 3, 1) := by decide +kernel
theorem dL_adds_87 : decode cL_adds 87 = .ok (.iconst 3, 1) := by decide +kernel
theorem dL_adds_88 : decode cL_adds 88 = .ok (.iand, 1) := by decide +kernel
theorem dL_adds_89 : decode cL_adds 89 = .ok (.iconst 1, 1) := by decide +kernel
theorem dL_adds_90 : decode cL_adds 90 = .ok (.if_icmp .ne 9, 3) := by decide +kernel
theorem dL_adds_93 : decode cL_adds 93 = .ok (.ldc2_w 75, 3) := by decide +kernel
theorem dL_adds_96 : decode cL_adds 96 = .ok (.goto 6, 3) := by decide +kernel
theorem dL_adds_99 : decode cL_adds 99 = .ok (.ldc2_w 77, 3) := by decide +kernel
theorem dL_adds_102 : decode cL_adds 102 = .ok (.lstore 5, 2) := by decide +kernel
theorem dL_adds_104 : decode cL_adds 104 = .ok (.aload_n 0, 1) := by decide +kernel
theorem dL_adds_105 : decode cL_adds 105 = .ok (.ldc2_w 79, 3) := by decide +kernel
theorem dL_adds_108 : decode cL_adds 108 = .ok (.invokevirtual 81, 3) := by decide +kernel
theorem dL_adds_111 : decode cL_adds 111 = .ok (.bipush (-2), 2) := by decide +kernel
theorem dL_adds_113 : decode cL_adds 113 = .ok (.if_icmp .ne 54, 3) := by decide +kernel
theorem dL_adds_116 : decode cL_adds 116 = .ok (.aload_n 0, 1) := by decide +kernel
theorem dL_adds_117 : decode cL_adds 117 = .ok (.ldc2_w 85, 3) := by decide +kernel
theorem dL_adds_120 : decode cL_adds 120 = .ok (.invokevirtual 81, 3) := by decide +kernel
theorem dL_adds_123 : decode cL_adds 123 = .ok (.bipush (-2), 2) := by decide +kernel
theorem dL_adds_125 : decode cL_adds 125 = .ok (.if_icmp .ne 42, 3) := by decide +kernel
theorem dL_adds_128 : decode cL_adds 128 = .ok (.aload_n 0, 1) := by decide +kernel
theorem dL_adds_129 : decode cL_adds 129 = .ok (.ldc2_w 87, 3) := by decide +kernel
theorem dL_adds_132 : decode cL_adds 132 = .ok (.invokevirtual 81, 3) := by decide +kernel
theorem dL_adds_135 : decode cL_adds 135 = .ok (.bipush (-2), 2) := by decide +kernel
theorem dL_adds_137 : decode cL_adds 137 = .ok (.if_icmp .ne 30, 3) := by decide +kernel
theorem dL_adds_140 : decode cL_adds 140 = .ok (.aload_n 0, 1) := by decide +kernel
theorem dL_adds_141 : decode cL_adds 141 = .ok (.lload 5, 2) := by decide +kernel
theorem dL_adds_143 : decode cL_adds 143 = .ok (.invokevirtual 81, 3) := by decide +kernel
theorem dL_adds_146 : decode cL_adds 146 = .ok (.iload 4, 2) := by decide +kernel
theorem dL_adds_148 : decode cL_adds 148 = .ok (.bipush 6, 2) := by decide +kernel
theorem dL_adds_150 : decode cL_adds 150 = .ok (.if_icmp .ne 8, 3) := by decide +kernel
theorem dL_adds_153 : decode cL_adds 153 = .ok (.bipush (-3), 2) := by decide +kernel
theorem dL_adds_155 : decode cL_adds 155 = .ok (.goto 5, 3) := by decide +kernel
theorem dL_adds_158 : decode cL_adds 158 = .ok (.iload 4, 2) := by decide +kernel
theorem dL_adds_160 : decode cL_adds 160 = .ok (.if_icmp .ne 7, 3) := by decide +kernel
theorem dL_adds_163 : decode cL_adds 163 = .ok (.iconst 1, 1) := by decide +kernel
theorem dL_adds_164 : decode cL_adds 164 = .ok (.goto 4, 3) := by decide +kernel
theorem dL_adds_167 : decode cL_adds 167 = .ok (.iconst 0, 1) := by decide +kernel
theorem dL_adds_168 : decode cL_adds 168 = .ok (.ireturn, 1) := by decide +kernel
theorem dL_adds_169 : decode cL_adds 169 = .ok (.iload_n 1, 1) := by decide +kernel
theorem dL_adds_170 : decode cL_adds 170 = .ok (.iconst 2, 1) := by decide +kernel
theorem dL_adds_171 : decode cL_adds 171 = .ok (.if_icmp .ne 118, 3) := by decide +kernel
theorem dL_adds_174 : decode cL_adds 174 = .ok (.aload_n 0, 1) := by decide +kernel
theorem dL_adds_175 : decode cL_adds 175 = .ok (.invokevirtual 41, 3) := by decide +kernel
theorem dL_adds_178 : decode cL_adds 178 = .ok (.lstore 4, 2) := by decide +kernel
theorem dL_adds_180 : decode cL_adds 180 = .ok (.iload_n 3, 1) := by decide +kernel
theorem dL_adds_181 : decode cL_adds 181 = .ok (.bipush 7, 2) := by decide +kernel
theorem dL_adds_183 : decode cL_adds 183 = .ok (.iand, 1) := by decide +kernel
theorem dL_adds_184 : decode cL_adds 184 = .ok (.iconst 2, 1) := by decide +kernel
theorem dL_adds_185 : decode cL_adds 185 = .ok (.if_icmp .ge 7, 3) := by decide +kernel
theorem dL_adds_188 : decode cL_adds 188 = .ok (.lconst 0, 1) := by decide +kernel
theorem dL_adds_189 : decode cL_adds 189 = .ok (.goto 35, 3) := by decide +kernel
theorem dL_adds_192 : decode cL_adds 192 = .ok (.iload_n 3, 1) := by decide +kernel
theorem dL_adds_193 : decode cL_adds 193 = .ok (.bipush 7, 2) := by decide +kernel
theorem dL_adds_195 : decode cL_adds 195 = .ok (.iand, 1) := by decide +kernel
theorem dL_adds_196 : decode cL_adds 196 = .ok (.iconst 4, 1) := by decide +kernel
theorem dL_adds_197 : decode cL_adds 197 = .ok (.if_icmp .ge 9, 3) := by decide +kernel
theorem dL_adds_200 : decode cL_adds 200 = .ok (.ldc2_w 89, 3) := by decide +kernel
theorem dL_adds_203 : decode cL_adds 203 = .ok (.goto 21, 3) := by decide +kernel
theorem dL_adds_206 : decode cL_adds 206 = .ok (.iload_n 3, 1) := by decide +kernel
theorem dL_adds_207 : decode cL_adds 207 = .ok (.bipush 7, 2) := by decide +kernel
theorem dL_adds_209 : decode cL_adds 209 = .ok (.iand, 1) := by decide +kernel
theorem dL_adds_210 : decode cL_adds 210 = .ok (.bipush 6, 2) := by decide +kernel
theorem dL_adds_212 : decode cL_adds 212 = .ok (.if_icmp .ge 9, 3) := by decide +kernel
theorem dL_adds_215 : decode cL_adds 215 = .ok (.ldc2_w 91, 3) := by decide +kernel
theorem dL_adds_218 : decode cL_adds 218 = .ok (.goto 6, 3) := by decide +kernel
theorem dL_adds_221 : decode cL_adds 221 = .ok (.ldc2_w 93, 3) := by decide +kernel
theorem dL_adds_224 : decode cL_adds 224 = .ok (.lstore 6, 2) := by decide +kernel
theorem dL_adds_226 : decode cL_adds 226 = .ok (.aload_n 0, 1) := by decide +kernel
theorem dL_adds_227 : decode cL_adds 227 = .ok (.ldc2_w 79, 3) := by decide +kernel
theorem dL_adds_230 : decode cL_adds 230 = .ok (.invokevirtual 95, 3) := by decide +kernel
theorem dL_adds_233 : decode cL_adds 233 = .ok (.bipush (-2), 2) := by decide +kernel
theorem dL_adds_235 : decode cL_adds 235 = .ok (.if_icmp .ne 52, 3) := by decide +kernel
theorem dL_adds_238 : decode cL_adds 238 = .ok (.aload_n 0, 1) := by decide +kernel
theorem dL_adds_239 : decode cL_adds 239 = .ok (.ldc2_w 98, 3) := by decide +kernel
theorem dL_adds_242 : decode cL_adds 242 = .ok (.invokevirtual 95, 3) := by decide +kernel
theorem dL_adds_245 : decode cL_adds 245 = .ok (.bipush (-2), 2) := by decide +kernel
theorem dL_adds_247 : decode cL_adds 247 = .ok (.if_icmp .ne 40, 3) := by decide +kernel
theorem dL_adds_250 : decode cL_adds 250 = .ok (.aload_n 0, 1) := by decide +kernel
theorem dL_adds_251 : decode cL_adds 251 = .ok (.lload 6, 2) := by decide +kernel
theorem dL_adds_253 : decode cL_adds 253 = .ok (.invokevirtual 95, 3) := by decide +kernel
theorem dL_adds_256 : decode cL_adds 256 = .ok (.lload 4, 2) := by decide +kernel
theorem dL_adds_258 : decode cL_adds 258 = .ok (.lload 6, 2) := by decide +kernel
theorem dL_adds_260 : decode cL_adds 260 = .ok (.lcmp, 1) := by decide +kernel
theorem dL_adds_261 : decode cL_adds 261 = .ok (.ifCond .ne 8, 3) := by decide +kernel
theorem dL_adds_264 : decode cL_adds 264 = .ok (.bipush (-5), 2) := by decide +kernel
theorem dL_adds_266 : decode cL_adds 266 = .ok (.goto 4, 3) := by decide +kernel
theorem dL_adds_269 : decode cL_adds 269 = .ok (.iconst 1, 1) := by decide +kernel
theorem dL_adds_270 : decode cL_adds 270 = .ok (.if_icmp .ne 17, 3) := by decide +kernel
theorem dL_adds_273 : decode cL_adds 273 = .ok (.aload_n 0, 1) := by decide +kernel
theorem dL_adds_274 : decode cL_adds 274 = .ok (.invokevirtual 41, 3) := by decide +kernel
theorem dL_adds_277 : decode cL_adds 277 = .ok (.lload 6, 2) := by decide +kernel
theorem dL_adds_279 : decode cL_adds 279 = .ok (.lcmp, 1) := by decide +kernel
theorem dL_adds_280 : decode cL_adds 280 = .ok (.ifCond .ne 7, 3) := by decide +kernel
theorem dL_adds_283 : decode cL_adds 283 = .ok (.iconst 1, 1) := by decide +kernel
theorem dL_adds_284 : decode cL_adds 284 = .ok (.goto 4, 3) := by decide +kernel
theorem dL_adds_287 : decode cL_adds 287 = .ok (.iconst 0, 1) := by decide +kernel
theorem dL_adds_288 : decode cL_adds 288 = .ok (.ireturn, 1) := by decide +kernel
theorem dL_adds_289 : decode cL_adds 289 = .ok (.aload_n 0, 1) := by decide +kernel
theorem dL_adds_290 : decode cL_adds 290 = .ok (.iconst 3, 1) := by decide +kernel
theorem dL_adds_291 : decode cL_adds 291 = .ok (.invokevirtual 13, 3) := by decide +kernel
theorem dL_adds_294 : decode cL_adds 294 = .ok (.istore 4, 2) := by decide +kernel
theorem dL_adds_296 : decode cL_adds 296 = .ok (.aload_n 0, 1) := by decide +kernel
theorem dL_adds_297 : decode cL_adds 297 = .ok (.iconst 0, 1) := by decide +kernel
theorem dL_adds_298 : decode cL_adds 298 = .ok (.invokevirtual 13, 3) := by decide +kernel
theorem dL_adds_301 : decode cL_adds 301 = .ok (.iload_n 2, 1) := by decide +kernel
theorem dL_adds_302 : decode cL_adds 302 = .ok (.bipush 18, 2) := by decide +kernel
theorem dL_adds_304 : decode cL_adds 304 = .ok (.invokestatic 65, 3) := by decide +kernel
theorem dL_adds_307 : decode cL_adds 307 = .ok (.iadd, 1) := by decide +kernel
theorem dL_adds_308 : decode cL_adds 308 = .ok (.istore 5, 2) := by decide +kernel
theorem dL_adds_310 : decode cL_adds 310 = .ok (.iload_n 3, 1) := by decide +kernel
theorem dL_adds_311 : decode cL_adds 311 = .ok (.iconst 1, 1) := by decide +kernel
theorem dL_adds_312 : decode cL_adds 312 = .ok (.aload_n 0, 1) := by decide +kernel
theorem dL_adds_313 : decode cL_adds 313 = .ok (.iconst 2, 1) := by decide +kernel
theorem dL_adds_314 : decode cL_adds 314 = .ok (.invokevirtual 13, 3) := by decide +kernel
theorem dL_adds_317 : decode cL_adds 317 = .ok (.ishl, 1) := by decide +kernel
theorem dL_adds_318 : decode cL_adds 318 = .ok (.invokestatic 65, 3) := by decide +kernel
theorem dL_adds_321 : decode cL_adds 321 = .ok (.istore 6, 2) := by decide +kernel
theorem dL_adds_323 : decode cL_adds 323 = .ok (.aload_n 0, 1) := by decide +kernel
theorem dL_adds_324 : decode cL_adds 324 = .ok (.iload 5, 2) := by decide +kernel
theorem dL_adds_326 : decode cL_adds 326 = .ok (.iload_n 2, 1) := by decide +kernel
theorem dL_adds_327 : decode cL_adds 327 = .ok (.iconst 5, 1) := by decide +kernel
theorem dL_adds_328 : decode cL_adds 328 = .ok (.ishr, 1) := by decide +kernel
theorem dL_adds_329 : decode cL_adds 329 = .ok (.bipush 6, 2) := by decide +kernel
theorem dL_adds_331 : decode cL_adds 331 = .ok (.invokestatic 65, 3) := by decide +kernel
theorem dL_adds_334 : decode cL_adds 334 = .ok (.invokestatic 100, 3) := by decide +kernel
theorem dL_adds_337 : decode cL_adds 337 = .ok (.iconst 1, 1) := by decide +kernel
theorem dL_adds_338 : decode cL_adds 338 = .ok (.iload_n 3, 1) := by decide +kernel
theorem dL_adds_339 : decode cL_adds 339 = .ok (.iconst 4, 1) := by decide +kernel
theorem dL_adds_340 : decode cL_adds 340 = .ok (.ishr, 1) := by decide +kernel
theorem dL_adds_341 : decode cL_adds 341 = .ok (.sipush 9999, 3) := by decide +kernel
theorem dL_adds_344 : decode cL_adds 344 = .ok (.invokestatic 65, 3) := by decide +kernel
theorem dL_adds_347 : decode cL_adds 347 = .ok (.iadd, 1) := by decide +kernel
theorem dL_adds_348 : decode cL_adds 348 = .ok (.iload 6, 2) := by decide +kernel
theorem dL_adds_350 : decode cL_adds 350 = .ok (.invokevirtual 104, 3) := by decide +kernel
theorem dL_adds_353 : decode cL_adds 353 = .ok (.istore 7, 2) := by decide +kernel
theorem dL_adds_355 : decode cL_adds 355 = .ok (.aload_n 0, 1) := by decide +kernel
theorem dL_adds_356 : decode cL_adds 356 = .ok (.aload_n 0, 1) := by decide +kernel
theorem dL_adds_357 : decode cL_adds 357 = .ok (.iconst 0, 1) := by decide +kernel
theorem dL_adds_358 : decode cL_adds 358 = .ok (.invokevirtual 13, 3) := by decide +kernel
theorem dL_adds_361 : decode cL_adds 361 = .ok (.iconst 1, 1) := by decide +kernel
theorem dL_adds_362 : decode cL_adds 362 = .ok (.isub, 1) := by decide +kernel
theorem dL_adds_363 : decode cL_adds 363 = .ok (.lconst 0, 1) := by decide +kernel
theorem dL_adds_364 : decode cL_adds 364 = .ok (.iconst 1, 1) := by decide +kernel
theorem dL_adds_365 : decode cL_adds 365 = .ok (.iconst 0, 1) := by decide +kernel
theorem dL_adds_366 : decode cL_adds 366 = .ok (.invokevirtual 104, 3) := by decide +kernel
theorem dL_adds_369 : decode cL_adds 369 = .ok (.bipush (-2), 2) := by decide +kernel
theorem dL_adds_371 : decode cL_adds 371 = .ok (.if_icmp .ne 43, 3) := by decide +kernel
theorem dL_adds_374 : decode cL_adds 374 = .ok (.aload_n 0, 1) := by decide +kernel
theorem dL_adds_375 : decode cL_adds 375 = .ok (.iload 5, 2) := by decide +kernel
theorem dL_adds_377 : decode cL_adds 377 = .ok (.ldc2_w 108, 3) := by decide +kernel
theorem dL_adds_380 : decode cL_adds 380 = .ok (.iconst 1, 1) := by decide +kernel
theorem dL_adds_381 : decode cL_adds 381 = .ok (.iconst 0, 1) := by decide +kernel
theorem dL_adds_382 : decode cL_adds 382 = .ok (.invokevirtual 104, 3) := by decide +kernel
theorem dL_adds_385 : decode cL_adds 385 = .ok (.bipush (-2), 2) := by decide +kernel
theorem dL_adds_387 : decode cL_adds 387 = .ok (.if_icmp .ne 27, 3) := by decide +kernel
theorem dL_adds_390 : decode cL_adds 390 = .ok (.aload_n 0, 1) := by decide +kernel
theorem dL_adds_391 : decode cL_adds 391 = .ok (.iload 5, 2) := by decide +kernel
theorem dL_adds_393 : decode cL_adds 393 = .ok (.lconst 0, 1) := by decide +kernel
theorem dL_adds_394 : decode cL_adds 394 = .ok (.iconst 1, 1) := by decide +kernel
theorem dL_adds_395 : decode cL_adds 395 = .ok (.iconst 1, 1) := by decide +kernel
theorem dL_adds_396 : decode cL_adds 396 = .ok (.aload_n 0, 1) := by decide +kernel
theorem dL_adds_397 : decode cL_adds 397 = .ok (.iconst 2, 1) := by decide +kernel
theorem dL_adds_398 : decode cL_adds 398 = .ok (.invokevirtual 13, 3) := by decide +kernel
theorem dL_adds_401 : decode cL_adds 401 = .ok (.ishl, 1) := by decide +kernel
theorem dL_adds_402 : decode cL_adds 402 = .ok (.invokevirtual 104, 3) := by decide +kernel
theorem dL_adds_405 : decode cL_adds 405 = .ok (.bipush (-2), 2) := by decide +kernel
theorem dL_adds_407 : decode cL_adds 407 = .ok (.if_icmp .ne 7, 3) := by decide +kernel
theorem dL_adds_410 : decode cL_adds 410 = .ok (.iconst 1, 1) := by decide +kernel
theorem dL_adds_411 : decode cL_adds 411 = .ok (.goto 4, 3) := by decide +kernel
theorem dL_adds_414 : decode cL_adds 414 = .ok (.iconst 0, 1) := by decide +kernel
theorem dL_adds_415 : decode cL_adds 415 = .ok (.istore 8, 2) := by decide +kernel
theorem dL_adds_417 : decode cL_adds 417 = .ok (.iload 8, 2) := by decide +kernel
theorem dL_adds_419 : decode cL_adds 419 = .ok (.ifCond .eq 78, 3) := by decide +kernel
theorem dL_adds_422 : decode cL_adds 422 = .ok (.iload 7, 2) := by decide +kernel
theorem dL_adds_424 : decode cL_adds 424 = .ok (.iload 5, 2) := by decide +kernel
theorem dL_adds_426 : decode cL_adds 426 = .ok (.sipush 999, 3) := by decide +kernel
theorem dL_adds_429 : decode cL_adds 429 = .ok (.if_icmp .le 8, 3) := by decide +kernel
theorem dL_adds_432 : decode cL_adds 432 = .ok (.bipush (-2), 2) := by decide +kernel
theorem dL_adds_434 : decode cL_adds 434 = .ok (.goto 17, 3) := by decide +kernel
theorem dL_adds_437 : decode cL_adds 437 = .ok (.iload 4, 2) := by decide +kernel
theorem dL_adds_439 : decode cL_adds 439 = .ok (.bipush 10, 2) := by decide +kernel
theorem dL_adds_441 : decode cL_adds 441 = .ok (.if_icmp .ne 8, 3) := by decide +kernel
theorem dL_adds_444 : decode cL_adds 444 = .ok (.bipush (-3), 2) := by decide +kernel
theorem dL_adds_446 : decode cL_adds 446 = .ok (.goto 5, 3) := by decide +kernel
theorem dL_adds_449 : decode cL_adds 449 = .ok (.iload 4, 2) := by decide +kernel
theorem dL_adds_451 : decode cL_adds 451 = .ok (.if_icmp .ne 46, 3) := by decide +kernel
theorem dL_adds_454 : decode cL_adds 454 = .ok (.iload 7, 2) := by decide +kernel
theorem dL_adds_456 : decode cL_adds 456 = .ok (.ifCond .lt 37, 3) := by decide +kernel
theorem dL_adds_459 : decode cL_adds 459 = .ok (.aload_n 0, 1) := by decide +kernel
theorem dL_adds_460 : decode cL_adds 460 = .ok (.iload 4, 2) := by decide +kernel
theorem dL_adds_462 : decode cL_adds 462 = .ok (.iconst 0, 1) := by decide +kernel
theorem dL_adds_463 : decode cL_adds 463 = .ok (.invokevirtual 23, 3) := by decide +kernel
theorem dL_adds_466 : decode cL_adds 466 = .ok (.iload 5, 2) := by decide +kernel
theorem dL_adds_468 : decode cL_adds 468 = .ok (.if_icmp .ne 29, 3) := by decide +kernel
theorem dL_adds_471 : decode cL_adds 471 = .ok (.aload_n 0, 1) := by decide +kernel
theorem dL_adds_472 : decode cL_adds 472 = .ok (.iload 4, 2) := by decide +kernel
theorem dL_adds_474 : decode cL_adds 474 = .ok (.iconst 2, 1) := by decide +kernel
theorem dL_adds_475 : decode cL_adds 475 = .ok (.invokevirtual 23, 3) := by decide +kernel
theorem dL_adds_478 : decode cL_adds 478 = .ok (.iload 6, 2) := by decide +kernel
theorem dL_adds_480 : decode cL_adds 480 = .ok (.if_icmp .ne 17, 3) := by decide +kernel
theorem dL_adds_483 : decode cL_adds 483 = .ok (.aload_n 0, 1) := by decide +kernel
theorem dL_adds_484 : decode cL_adds 484 = .ok (.iload 4, 2) := by decide +kernel
theorem dL_adds_486 : decode cL_adds 486 = .ok (.iconst 3, 1) := by decide +kernel
theorem dL_adds_487 : decode cL_adds 487 = .ok (.invokevirtual 23, 3) := by decide +kernel
theorem dL_adds_490 : decode cL_adds 490 = .ok (.ifCond .ne 7, 3) := by decide +kernel
theorem dL_adds_493 : decode cL_adds 493 = .ok (.iconst 1, 1) := by decide +kernel
theorem dL_adds_494 : decode cL_adds 494 = .ok (.goto 4, 3) := by decide +kernel
theorem dL_adds_497 : decode cL_adds 497 = .ok (.iconst 0, 1) := by decide +kernel
theorem dL_adds_498 : decode cL_adds 498 = .ok (.ireturn, 1) := by decide +kernel
theorem dL_guests_0 : decode cL_guests 0 = .ok (.iload_n 2, 1) := by decide +kernel
theorem dL_guests_1 : decode cL_guests 1 = .ok (.aload_n 0, 1) := by decide +kernel
theorem dL_guests_2 : decode cL_guests 2 = .ok (.iconst 3, 1) := by decide +kernel
theorem dL_guests_3 : decode cL_guests 3 = .ok (.invokevirtual 13, 3) := by decide +kernel
theorem dL_guests_6 : decode cL_guests 6 = .ok (.invokestatic 65, 3) := by decide +kernel
theorem dL_guests_9 : decode cL_guests 9 = .ok (.istore 4, 2) := by decide +kernel
theorem dL_guests_11 : decode cL_guests 11 = .ok (.iconst 1, 1) := by decide +kernel
theorem dL_guests_12 : decode cL_guests 12 = .ok (.iload_n 3, 1) := by decide +kernel
theorem dL_guests_13 : decode cL_guests 13 = .ok (.bipush 12, 2) := by decide +kernel
theorem dL_guests_15 : decode cL_guests 15 = .ok (.invokestatic 65, 3) := by decide +kernel
theorem dL_guests_18 : decode cL_guests 18 = .ok (.iadd, 1) := by decide +kernel
theorem dL_guests_19 : decode cL_guests 19 = .ok (.istore 5, 2) := by decide +kernel
theorem dL_guests_21 : decode cL_guests 21 = .ok (.aload_n 0, 1) := by decide +kernel
theorem dL_guests_22 : decode cL_guests 22 = .ok (.iload 4, 2) := by decide +kernel
theorem dL_guests_24 : decode cL_guests 24 = .ok (.bipush 6, 2) := by decide +kernel
theorem dL_guests_26 : decode cL_guests 26 = .ok (.invokevirtual 23, 3) := by decide +kernel
theorem dL_guests_29 : decode cL_guests 29 = .ok (.istore 6, 2) := by decide +kernel
theorem dL_guests_31 : decode cL_guests 31 = .ok (.aload_n 0, 1) := by decide +kernel
theorem dL_guests_32 : decode cL_guests 32 = .ok (.iload 4, 2) := by decide +kernel
theorem dL_guests_34 : decode cL_guests 34 = .ok (.iconst 3, 1) := by decide +kernel
theorem dL_guests_35 : decode cL_guests 35 = .ok (.invokevirtual 23, 3) := by decide +kernel
theorem dL_guests_38 : decode cL_guests 38 = .ok (.istore 7, 2) := by decide +kernel
theorem dL_guests_40 : decode cL_guests 40 = .ok (.aload_n 0, 1) := by decide +kernel
theorem dL_guests_41 : decode cL_guests 41 = .ok (.iload 4, 2) := by decide +kernel
theorem dL_guests_43 : decode cL_guests 43 = .ok (.iconst 5, 1) := by decide +kernel
theorem dL_guests_44 : decode cL_guests 44 = .ok (.invokevirtual 23, 3) := by decide +kernel
theorem dL_guests_47 : decode cL_guests 47 = .ok (.istore 8, 2) := by decide +kernel
theorem dL_guests_49 : decode cL_guests 49 = .ok (.aload_n 0, 1) := by decide +kernel
theorem dL_guests_50 : decode cL_guests 50 = .ok (.bipush 9, 2) := by decide +kernel
theorem dL_guests_52 : decode cL_guests 52 = .ok (.invokevirtual 13, 3) := by decide +kernel
theorem dL_guests_55 : decode cL_guests 55 = .ok (.istore 9, 2) := by decide +kernel
theorem dL_guests_57 : decode cL_guests 57 = .ok (.iload_n 1, 1) := by decide +kernel
theorem dL_guests_58 : decode cL_guests 58 = .ok (.bipush 7, 2) := by decide +kernel
theorem dL_guests_60 : decode cL_guests 60 = .ok (.if_icmp .ge 107, 3) := by decide +kernel
theorem dL_guests_63 : decode cL_guests 63 = .ok (.iload 6, 2) := by decide +kernel
theorem dL_guests_65 : decode cL_guests 65 = .ok (.ifCond .eq 8, 3) := by decide +kernel
theorem dL_guests_68 : decode cL_guests 68 = .ok (.bipush (-4), 2) := by decide +kernel
theorem dL_guests_70 : decode cL_guests 70 = .ok (.goto 28, 3) := by decide +kernel
theorem dL_guests_73 : decode cL_guests 73 = .ok (.iload 7, 2) := by decide +kernel
theorem dL_guests_75 : decode cL_guests 75 = .ok (.iload 5, 2) := by decide +kernel
theorem dL_guests_77 : decode cL_guests 77 = .ok (.iadd, 1) := by decide +kernel
theorem dL_guests_78 : decode cL_guests 78 = .ok (.bipush 12, 2) := by decide +kernel
theorem dL_guests_80 : decode cL_guests 80 = .ok (.if_icmp .le 8, 3) := by decide +kernel
theorem dL_guests_83 : decode cL_guests 83 = .ok (.bipush (-3), 2) := by decide +kernel
theorem dL_guests_85 : decode cL_guests 85 = .ok (.goto 13, 3) := by decide +kernel
theorem dL_guests_88 : decode cL_guests 88 = .ok (.iload 5, 2) := by decide +kernel
theorem dL_guests_90 : decode cL_guests 90 = .ok (.aload_n 0, 1) := by decide +kernel
theorem dL_guests_91 : decode cL_guests 91 = .ok (.iload 4, 2) := by decide +kernel
theorem dL_guests_93 : decode cL_guests 93 = .ok (.iconst 1, 1) := by decide +kernel
theorem dL_guests_94 : decode cL_guests 94 = .ok (.invokevirtual 23, 3) := by decide +kernel
theorem dL_guests_97 : decode cL_guests 97 = .ok (.imul, 1) := by decide +kernel
theorem dL_guests_98 : decode cL_guests 98 = .ok (.istore 10, 2) := by decide +kernel
theorem dL_guests_100 : decode cL_guests 100 = .ok (.aload_n 0, 1) := by decide +kernel
theorem dL_guests_101 : decode cL_guests 101 = .ok (.iload 4, 2) := by decide +kernel
theorem dL_guests_103 : decode cL_guests 103 = .ok (.iload 5, 2) := by decide +kernel
theorem dL_guests_105 : decode cL_guests 105 = .ok (.invokevirtual 110, 3) := by decide +kernel
theorem dL_guests_108 : decode cL_guests 108 = .ok (.iload 10, 2) := by decide +kernel
theorem dL_guests_110 : decode cL_guests 110 = .ok (.if_icmp .ne 55, 3) := by decide +kernel
theorem dL_guests_113 : decode cL_guests 113 = .ok (.iload 10, 2) := by decide +kernel
theorem dL_guests_115 : decode cL_guests 115 = .ok (.ifCond .lt 33, 3) := by decide +kernel
theorem dL_guests_118 : decode cL_guests 118 = .ok (.aload_n 0, 1) := by decide +kernel
theorem dL_guests_119 : decode cL_guests 119 = .ok (.iload 4, 2) := by decide +kernel
theorem dL_guests_121 : decode cL_guests 121 = .ok (.iconst 3, 1) := by decide +kernel
theorem dL_guests_122 : decode cL_guests 122 = .ok (.invokevirtual 23, 3) := by decide +kernel
theorem dL_guests_125 : decode cL_guests 125 = .ok (.iload 7, 2) := by decide +kernel
theorem dL_guests_127 : decode cL_guests 127 = .ok (.iload 5, 2) := by decide +kernel
theorem dL_guests_129 : decode cL_guests 129 = .ok (.iadd, 1) := by decide +kernel
theorem dL_guests_130 : decode cL_guests 130 = .ok (.if_icmp .ne 35, 3) := by decide +kernel
theorem dL_guests_133 : decode cL_guests 133 = .ok (.aload_n 0, 1) := by decide +kernel
theorem dL_guests_134 : decode cL_guests 134 = .ok (.iload 4, 2) := by decide +kernel
theorem dL_guests_136 : decode cL_guests 136 = .ok (.iconst 5, 1) := by decide +kernel
theorem dL_guests_137 : decode cL_guests 137 = .ok (.invokevirtual 23, 3) := by decide +kernel
theorem dL_guests_140 : decode cL_guests 140 = .ok (.iload 8, 2) := by decide +kernel
theorem dL_guests_142 : decode cL_guests 142 = .ok (.iload 10, 2) := by decide +kernel
theorem dL_guests_144 : decode cL_guests 144 = .ok (.iadd, 1) := by decide +kernel
theorem dL_guests_145 : decode cL_guests 145 = .ok (.if_icmp .ne 20, 3) := by decide +kernel
theorem dL_guests_148 : decode cL_guests 148 = .ok (.aload_n 0, 1) := by decide +kernel
theorem dL_guests_149 : decode cL_guests 149 = .ok (.iload 4, 2) := by decide +kernel
theorem dL_guests_151 : decode cL_guests 151 = .ok (.bipush 13, 2) := by decide +kernel
theorem dL_guests_153 : decode cL_guests 153 = .ok (.invokevirtual 110, 3) := by decide +kernel
theorem dL_guests_156 : decode cL_guests 156 = .ok (.bipush (-2), 2) := by decide +kernel
theorem dL_guests_158 : decode cL_guests 158 = .ok (.if_icmp .ne 7, 3) := by decide +kernel
theorem dL_guests_161 : decode cL_guests 161 = .ok (.iconst 1, 1) := by decide +kernel
theorem dL_guests_162 : decode cL_guests 162 = .ok (.goto 4, 3) := by decide +kernel
theorem dL_guests_165 : decode cL_guests 165 = .ok (.iconst 0, 1) := by decide +kernel
theorem dL_guests_166 : decode cL_guests 166 = .ok (.ireturn, 1) := by decide +kernel
theorem dL_guests_167 : decode cL_guests 167 = .ok (.iload 6, 2) := by decide +kernel
theorem dL_guests_169 : decode cL_guests 169 = .ok (.ifCond .ne 10, 3) := by decide +kernel
theorem dL_guests_172 : decode cL_guests 172 = .ok (.iload 5, 2) := by decide +kernel
theorem dL_guests_174 : decode cL_guests 174 = .ok (.iload 7, 2) := by decide +kernel
theorem dL_guests_176 : decode cL_guests 176 = .ok (.if_icmp .le 22, 3) := by decide +kernel
theorem dL_guests_179 : decode cL_guests 179 = .ok (.aload_n 0, 1) := by decide +kernel
theorem dL_guests_180 : decode cL_guests 180 = .ok (.iload 4, 2) := by decide +kernel
theorem dL_guests_182 : decode cL_guests 182 = .ok (.iload 5, 2) := by decide +kernel
theorem dL_guests_184 : decode cL_guests 184 = .ok (.invokevirtual 113, 3) := by decide +kernel
theorem dL_guests_187 : decode cL_guests 187 = .ok (.bipush (-4), 2) := by decide +kernel
theorem dL_guests_189 : decode cL_guests 189 = .ok (.if_icmp .ne 7, 3) := by decide +kernel
theorem dL_guests_192 : decode cL_guests 192 = .ok (.iconst 1, 1) := by decide +kernel
theorem dL_guests_193 : decode cL_guests 193 = .ok (.goto 4, 3) := by decide +kernel
theorem dL_guests_196 : decode cL_guests 196 = .ok (.iconst 0, 1) := by decide +kernel
theorem dL_guests_197 : decode cL_guests 197 = .ok (.ireturn, 1) := by decide +kernel
theorem dL_guests_198 : decode cL_guests 198 = .ok (.aload_n 0, 1) := by decide +kernel
theorem dL_guests_199 : decode cL_guests 199 = .ok (.iload 4, 2) := by decide +kernel
theorem dL_guests_201 : decode cL_guests 201 = .ok (.iconst 0, 1) := by decide +kernel
theorem dL_guests_202 : decode cL_guests 202 = .ok (.invokevirtual 23, 3) := by decide +kernel
theorem dL_guests_205 : decode cL_guests 205 = .ok (.aload_n 0, 1) := by decide +kernel
theorem dL_guests_206 : decode cL_guests 206 = .ok (.iconst 0, 1) := by decide +kernel
theorem dL_guests_207 : decode cL_guests 207 = .ok (.invokevirtual 13, 3) := by decide +kernel
theorem dL_guests_210 : decode cL_guests 210 = .ok (.isub, 1) := by decide +kernel
theorem dL_guests_211 : decode cL_guests 211 = .ok (.istore 10, 2) := by decide +kernel
theorem dL_guests_213 : decode cL_guests 213 = .ok (.iload 10, 2) := by decide +kernel
theorem dL_guests_215 : decode cL_guests 215 = .ok (.bipush 13, 2) := by decide +kernel
theorem dL_guests_217 : decode cL_guests 217 = .ok (.if_icmp .le 7, 3) := by decide +kernel
theorem dL_guests_220 : decode cL_guests 220 = .ok (.dconst 1, 1) := by decide +kernel
theorem dL_guests_221 : decode cL_guests 221 = .ok (.goto 29, 3) := by decide +kernel
theorem dL_guests_224 : decode cL_guests 224 = .ok (.iload 10, 2) := by decide +kernel
theorem dL_guests_226 : decode cL_guests 226 = .ok (.bipush 6, 2) := by decide +kernel
theorem dL_guests_228 : decode cL_guests 228 = .ok (.if_icmp .le 9, 3) := by decide +kernel
theorem dL_guests_231 : decode cL_guests 231 = .ok (.ldc2_w 116, 3) := by decide +kernel
theorem dL_guests_234 : decode cL_guests 234 = .ok (.goto 16, 3) := by decide +kernel
theorem dL_guests_237 : decode cL_guests 237 = .ok (.iload 10, 2) := by decide +kernel
theorem dL_guests_239 : decode cL_guests 239 = .ok (.iconst 2, 1) := by decide +kernel
theorem dL_guests_240 : decode cL_guests 240 = .ok (.if_icmp .le 9, 3) := by decide +kernel
theorem dL_guests_243 : decode cL_guests 243 = .ok (.ldc2_w 118, 3) := by decide +kernel
theorem dL_guests_246 : decode cL_guests 246 = .ok (.goto 4, 3) := by decide +kernel
theorem dL_guests_249 : decode cL_guests 249 = .ok (.dconst 0, 1) := by decide +kernel
theorem dL_guests_250 : decode cL_guests 250 = .ok (.dstore 11, 2) := by decide +kernel
theorem dL_guests_252 : decode cL_guests 252 = .ok (.iload 8, 2) := by decide +kernel
theorem dL_guests_254 : decode cL_guests 254 = .ok (.i2d, 1) := by decide +kernel
theorem dL_guests_255 : decode cL_guests 255 = .ok (.iload 7, 2) := by decide +kernel
theorem dL_guests_257 : decode cL_guests 257 = .ok (.i2d, 1) := by decide +kernel
theorem dL_guests_258 : decode cL_guests 258 = .ok (.ddiv, 1) := by decide +kernel
theorem dL_guests_259 : decode cL_guests 259 = .ok (.iload 5, 2) := by decide +kernel
theorem dL_guests_261 : decode cL_guests 261 = .ok (.i2d, 1) := by decide +kernel
theorem dL_guests_262 : decode cL_guests 262 = .ok (.dmul, 1) := by decide +kernel
theorem dL_guests_263 : decode cL_guests 263 = .ok (.dload 11, 2) := by decide +kernel
theorem dL_guests_265 : decode cL_guests 265 = .ok (.dmul, 1) := by decide +kernel
theorem dL_guests_266 : decode cL_guests 266 = .ok (.d2i, 1) := by decide +kernel
theorem dL_guests_267 : decode cL_guests 267 = .ok (.istore 13, 2) := by decide +kernel
theorem dL_guests_269 : decode cL_guests 269 = .ok (.aload_n 0, 1) := by decide +kernel
theorem dL_guests_270 : decode cL_guests 270 = .ok (.iload 4, 2) := by decide +kernel
theorem dL_guests_272 : decode cL_guests 272 = .ok (.iload 5, 2) := by decide +kernel
theorem dL_guests_274 : decode cL_guests 274 = .ok (.invokevirtual 113, 3) := by decide +kernel
theorem dL_guests_277 : decode cL_guests 277 = .ok (.iload 13, 2) := by decide +kernel
theorem dL_guests_279 : decode cL_guests 279 = .ok (.if_icmp .ne 51, 3) := by decide +kernel
theorem dL_guests_282 : decode cL_guests 282 = .ok (.aload_n 0, 1) := by decide +kernel
theorem dL_guests_283 : decode cL_guests 283 = .ok (.iload 4, 2) := by decide +kernel
theorem dL_guests_285 : decode cL_guests 285 = .ok (.iconst 3, 1) := by decide +kernel
theorem dL_guests_286 : decode cL_guests 286 = .ok (.invokevirtual 23, 3) := by decide +kernel
theorem dL_guests_289 : decode cL_guests 289 = .ok (.iload 7, 2) := by decide +kernel
theorem dL_guests_291 : decode cL_guests 291 = .ok (.iload 5, 2) := by decide +kernel
theorem dL_guests_293 : decode cL_guests 293 = .ok (.isub, 1) := by decide +kernel
theorem dL_guests_294 : decode cL_guests 294 = .ok (.if_icmp .ne 36, 3) := by decide +kernel
theorem dL_guests_297 : decode cL_guests 297 = .ok (.aload_n 0, 1) := by decide +kernel
theorem dL_guests_298 : decode cL_guests 298 = .ok (.iload 4, 2) := by decide +kernel
theorem dL_guests_300 : decode cL_guests 300 = .ok (.iconst 5, 1) := by decide +kernel
theorem dL_guests_301 : decode cL_guests 301 = .ok (.invokevirtual 23, 3) := by decide +kernel
theorem dL_guests_304 : decode cL_guests 304 = .ok (.iload 8, 2) := by decide +kernel
theorem dL_guests_306 : decode cL_guests 306 = .ok (.iload 13, 2) := by decide +kernel
theorem dL_guests_308 : decode cL_guests 308 = .ok (.isub, 1) := by decide +kernel
theorem dL_guests_309 : decode cL_guests 309 = .ok (.if_icmp .ne 21, 3) := by decide +kernel
theorem dL_guests_312 : decode cL_guests 312 = .ok (.aload_n 0, 1) := by decide +kernel
theorem dL_guests_313 : decode cL_guests 313 = .ok (.bipush 9, 2) := by decide +kernel
theorem dL_guests_315 : decode cL_guests 315 = .ok (.invokevirtual 13, 3) := by decide +kernel
theorem dL_guests_318 : decode cL_guests 318 = .ok (.iload 9, 2) := by decide +kernel
theorem dL_guests_320 : decode cL_guests 320 = .ok (.iload 13, 2) := by decide +kernel
theorem dL_guests_322 : decode cL_guests 322 = .ok (.iadd, 1) := by decide +kernel
theorem dL_guests_323 : decode cL_guests 323 = .ok (.if_icmp .ne 7, 3) := by decide +kernel
theorem dL_guests_326 : decode cL_guests 326 = .ok (.iconst 1, 1) := by decide +kernel
theorem dL_guests_327 : decode cL_guests 327 = .ok (.goto 4, 3) := by decide +kernel
theorem dL_guests_330 : decode cL_guests 330 = .ok (.iconst 0, 1) := by decide +kernel
theorem dL_guests_331 : decode cL_guests 331 = .ok (.ireturn, 1) := by decide +kernel
theorem dL_rows_0 : decode cL_rows 0 = .ok (.aload_n 0, 1) := by decide +kernel
theorem dL_rows_1 : decode cL_rows 1 = .ok (.iconst 1, 1) := by decide +kernel
theorem dL_rows_2 : decode cL_rows 2 = .ok (.invokevirtual 13, 3) := by decide +kernel
theorem dL_rows_5 : decode cL_rows 5 = .ok (.ifCond .ne 19, 3) := by decide +kernel
theorem dL_rows_8 : decode cL_rows 8 = .ok (.aload_n 0, 1) := by decide +kernel
theorem dL_rows_9 : decode cL_rows 9 = .ok (.iconst 0, 1) := by decide +kernel
theorem dL_rows_10 : decode cL_rows 10 = .ok (.iconst 0, 1) := by decide +kernel
theorem dL_rows_11 : decode cL_rows 11 = .ok (.invokevirtual 120, 3) := by decide +kernel
theorem dL_rows_14 : decode cL_rows 14 = .ok (.iconst (-1), 1) := by decide +kernel
theorem dL_rows_15 : decode cL_rows 15 = .ok (.if_icmp .ne 7, 3) := by decide +kernel
theorem dL_rows_18 : decode cL_rows 18 = .ok (.iconst 1, 1) := by decide +kernel
theorem dL_rows_19 : decode cL_rows 19 = .ok (.goto 4, 3) := by decide +kernel
theorem dL_rows_22 : decode cL_rows 22 = .ok (.iconst 0, 1) := by decide +kernel
theorem dL_rows_23 : decode cL_rows 23 = .ok (.ireturn, 1) := by decide +kernel
theorem dL_rows_24 : decode cL_rows 24 = .ok (.iload_n 2, 1) := by decide +kernel
theorem dL_rows_25 : decode cL_rows 25 = .ok (.aload_n 0, 1) := by decide +kernel
theorem dL_rows_26 : decode cL_rows 26 = .ok (.iconst 3, 1) := by decide +kernel
theorem dL_rows_27 : decode cL_rows 27 = .ok (.invokevirtual 13, 3) := by decide +kernel
theorem dL_rows_30 : decode cL_rows 30 = .ok (.invokestatic 65, 3) := by decide +kernel
theorem dL_rows_33 : decode cL_rows 33 = .ok (.istore 4, 2) := by decide +kernel
theorem dL_rows_35 : decode cL_rows 35 = .ok (.iload_n 3, 1) := by decide +kernel
theorem dL_rows_36 : decode cL_rows 36 = .ok (.aload_n 0, 1) := by decide +kernel
theorem dL_rows_37 : decode cL_rows 37 = .ok (.iconst 1, 1) := by decide +kernel
theorem dL_rows_38 : decode cL_rows 38 = .ok (.invokevirtual 13, 3) := by decide +kernel
theorem dL_rows_41 : decode cL_rows 41 = .ok (.invokestatic 65, 3) := by decide +kernel
theorem dL_rows_44 : decode cL_rows 44 = .ok (.istore 5, 2) := by decide +kernel
theorem dL_rows_46 : decode cL_rows 46 = .ok (.aload_n 0, 1) := by decide +kernel
theorem dL_rows_47 : decode cL_rows 47 = .ok (.iload 4, 2) := by decide +kernel
theorem dL_rows_49 : decode cL_rows 49 = .ok (.invokevirtual 123, 3) := by decide +kernel
theorem dL_rows_52 : decode cL_rows 52 = .ok (.istore 6, 2) := by decide +kernel
theorem dL_rows_54 : decode cL_rows 54 = .ok (.iload_n 3, 1) := by decide +kernel
theorem dL_rows_55 : decode cL_rows 55 = .ok (.sipush 256, 3) := by decide +kernel
theorem dL_rows_58 : decode cL_rows 58 = .ok (.iand, 1) := by decide +kernel
theorem dL_rows_59 : decode cL_rows 59 = .ok (.ifCond .ne 13, 3) := by decide +kernel
theorem dL_rows_62 : decode cL_rows 62 = .ok (.iload 6, 2) := by decide +kernel
theorem dL_rows_64 : decode cL_rows 64 = .ok (.ifCond .lt 8, 3) := by decide +kernel
theorem dL_rows_67 : decode cL_rows 67 = .ok (.iload 6, 2) := by decide +kernel
theorem dL_rows_69 : decode cL_rows 69 = .ok (.goto 5, 3) := by decide +kernel
theorem dL_rows_72 : decode cL_rows 72 = .ok (.iload 5, 2) := by decide +kernel
theorem dL_rows_74 : decode cL_rows 74 = .ok (.istore 5, 2) := by decide +kernel
theorem dL_rows_76 : decode cL_rows 76 = .ok (.aload_n 0, 1) := by decide +kernel
theorem dL_rows_77 : decode cL_rows 77 = .ok (.iload 4, 2) := by decide +kernel
theorem dL_rows_79 : decode cL_rows 79 = .ok (.iconst 4, 1) := by decide +kernel
theorem dL_rows_80 : decode cL_rows 80 = .ok (.invokevirtual 23, 3) := by decide +kernel
theorem dL_rows_83 : decode cL_rows 83 = .ok (.istore 7, 2) := by decide +kernel
theorem dL_rows_85 : decode cL_rows 85 = .ok (.aload_n 0, 1) := by decide +kernel
theorem dL_rows_86 : decode cL_rows 86 = .ok (.iload 4, 2) := by decide +kernel
theorem dL_rows_88 : decode cL_rows 88 = .ok (.bipush 6, 2) := by decide +kernel
theorem dL_rows_90 : decode cL_rows 90 = .ok (.invokevirtual 23, 3) := by decide +kernel
theorem dL_rows_93 : decode cL_rows 93 = .ok (.ifCond .ne 7, 3) := by decide +kernel
theorem dL_rows_96 : decode cL_rows 96 = .ok (.iconst 1, 1) := by decide +kernel
theorem dL_rows_97 : decode cL_rows 97 = .ok (.goto 4, 3) := by decide +kernel
theorem dL_rows_100 : decode cL_rows 100 = .ok (.iconst 0, 1) := by decide +kernel
theorem dL_rows_101 : decode cL_rows 101 = .ok (.istore 8, 2) := by decide +kernel
theorem dL_rows_103 : decode cL_rows 103 = .ok (.iload_n 1, 1) := by decide +kernel
theorem dL_rows_104 : decode cL_rows 104 = .ok (.bipush 11, 2) := by decide +kernel
theorem dL_rows_106 : decode cL_rows 106 = .ok (.if_icmp .ge 265, 3) := by decide +kernel
theorem dL_rows_109 : decode cL_rows 109 = .ok (.iconst 0, 1) := by decide +kernel
theorem dL_rows_110 : decode cL_rows 110 = .ok (.istore 9, 2) := by decide +kernel
theorem dL_rows_112 : decode cL_rows 112 = .ok (.iconst 0, 1) := by decide +kernel
theorem dL_rows_113 : decode cL_rows 113 = .ok (.istore 10, 2) := by decide +kernel
theorem dL_rows_115 : decode cL_rows 115 = .ok (.iload 10, 2) := by decide +kernel
theorem dL_rows_117 : decode cL_rows 117 = .ok (.aload_n 0, 1) := by decide +kernel
theorem dL_rows_118 : decode cL_rows 118 = .ok (.iconst 3, 1) := by decide +kernel
theorem dL_rows_119 : decode cL_rows 119 = .ok (.invokevirtual 13, 3) := by decide +kernel
theorem dL_rows_122 : decode cL_rows 122 = .ok (.if_icmp .ge 82, 3) := by decide +kernel
theorem dL_rows_125 : decode cL_rows 125 = .ok (.iconst 0, 1) := by decide +kernel
theorem dL_rows_126 : decode cL_rows 126 = .ok (.istore 11, 2) := by decide +kernel
theorem dL_rows_128 : decode cL_rows 128 = .ok (.iload 11, 2) := by decide +kernel
theorem dL_rows_130 : decode cL_rows 130 = .ok (.aload_n 0, 1) := by decide +kernel
theorem dL_rows_131 : decode cL_rows 131 = .ok (.iload 10, 2) := by decide +kernel
theorem dL_rows_133 : decode cL_rows 133 = .ok (.iconst 4, 1) := by decide +kernel
theorem dL_rows_134 : decode cL_rows 134 = .ok (.invokevirtual 23, 3) := by decide +kernel
theorem dL_rows_137 : decode cL_rows 137 = .ok (.if_icmp .ge 61, 3) := by decide +kernel
theorem dL_rows_140 : decode cL_rows 140 = .ok (.aload_n 0, 1) := by decide +kernel
theorem dL_rows_141 : decode cL_rows 141 = .ok (.iload 10, 2) := by decide +kernel
theorem dL_rows_143 : decode cL_rows 143 = .ok (.bipush 6, 2) := by decide +kernel
theorem dL_rows_145 : decode cL_rows 145 = .ok (.invokevirtual 23, 3) := by decide +kernel
theorem dL_rows_148 : decode cL_rows 148 = .ok (.ifCond .ne 50, 3) := by decide +kernel
theorem dL_rows_151 : decode cL_rows 151 = .ok (.iload 9, 2) := by decide +kernel
theorem dL_rows_153 : decode cL_rows 153 = .ok (.aload_n 0, 1) := by decide +kernel
theorem dL_rows_154 : decode cL_rows 154 = .ok (.iload 10, 2) := by decide +kernel
theorem dL_rows_156 : decode cL_rows 156 = .ok (.iconst 0, 1) := by decide +kernel
theorem dL_rows_157 : decode cL_rows 157 = .ok (.invokevirtual 23, 3) := by decide +kernel
theorem dL_rows_160 : decode cL_rows 160 = .ok (.aload_n 0, 1) := by decide +kernel
theorem dL_rows_161 : decode cL_rows 161 = .ok (.iload 4, 2) := by decide +kernel
theorem dL_rows_163 : decode cL_rows 163 = .ok (.iconst 0, 1) := by decide +kernel
theorem dL_rows_164 : decode cL_rows 164 = .ok (.invokevirtual 23, 3) := by decide +kernel
theorem dL_rows_167 : decode cL_rows 167 = .ok (.if_icmp .ne 21, 3) := by decide +kernel
theorem dL_rows_170 : decode cL_rows 170 = .ok (.aload_n 0, 1) := by decide +kernel
theorem dL_rows_171 : decode cL_rows 171 = .ok (.iload 10, 2) := by decide +kernel
theorem dL_rows_173 : decode cL_rows 173 = .ok (.iload 11, 2) := by decide +kernel
theorem dL_rows_175 : decode cL_rows 175 = .ok (.iconst 0, 1) := by decide +kernel
theorem dL_rows_176 : decode cL_rows 176 = .ok (.invokevirtual 28, 3) := by decide +kernel
theorem dL_rows_179 : decode cL_rows 179 = .ok (.iload 5, 2) := by decide +kernel
theorem dL_rows_181 : decode cL_rows 181 = .ok (.if_icmp .ne 7, 3) := by decide +kernel
theorem dL_rows_184 : decode cL_rows 184 = .ok (.iconst 1, 1) := by decide +kernel
theorem dL_rows_185 : decode cL_rows 185 = .ok (.goto 4, 3) := by decide +kernel
theorem dL_rows_188 : decode cL_rows 188 = .ok (.iconst 0, 1) := by decide +kernel
theorem dL_rows_189 : decode cL_rows 189 = .ok (.ior, 1) := by decide +kernel
theorem dL_rows_190 : decode cL_rows 190 = .ok (.istore 9, 2) := by decide +kernel
theorem dL_rows_192 : decode cL_rows 192 = .ok (.iinc 11 1, 3) := by decide +kernel
theorem dL_rows_195 : decode cL_rows 195 = .ok (.goto (-67), 3) := by decide +kernel
theorem dL_rows_198 : decode cL_rows 198 = .ok (.iinc 10 1, 3) := by decide +kernel
theorem dL_rows_201 : decode cL_rows 201 = .ok (.goto (-86), 3) := by decide +kernel
theorem dL_rows_204 : decode cL_rows 204 = .ok (.iload 8, 2) := by decide +kernel
theorem dL_rows_206 : decode cL_rows 206 = .ok (.ifCond .eq 29, 3) := by decide +kernel
theorem dL_rows_209 : decode cL_rows 209 = .ok (.iload 9, 2) := by decide +kernel
theorem dL_rows_211 : decode cL_rows 211 = .ok (.ifCond .ne 24, 3) := by decide +kernel
theorem dL_rows_214 : decode cL_rows 214 = .ok (.aload_n 0, 1) := by decide +kernel
theorem dL_rows_215 : decode cL_rows 215 = .ok (.iload 5, 2) := by decide +kernel
theorem dL_rows_217 : decode cL_rows 217 = .ok (.iconst 1, 1) := by decide +kernel
theorem dL_rows_218 : decode cL_rows 218 = .ok (.invokevirtual 19, 3) := by decide +kernel
theorem dL_rows_221 : decode cL_rows 221 = .ok (.aload_n 0, 1) := by decide +kernel
theorem dL_rows_222 : decode cL_rows 222 = .ok (.iload 4, 2) := by decide +kernel
theorem dL_rows_224 : decode cL_rows 224 = .ok (.iconst 0, 1) := by decide +kernel
theorem dL_rows_225 : decode cL_rows 225 = .ok (.invokevirtual 23, 3) := by decide +kernel
theorem dL_rows_228 : decode cL_rows 228 = .ok (.if_icmp .lt 7, 3) := by decide +kernel
theorem dL_rows_231 : decode cL_rows 231 = .ok (.iconst 1, 1) := by decide +kernel
theorem dL_rows_232 : decode cL_rows 232 = .ok (.goto 4, 3) := by decide +kernel
theorem dL_rows_235 : decode cL_rows 235 = .ok (.iconst 0, 1) := by decide +kernel
theorem dL_rows_236 : decode cL_rows 236 = .ok (.istore 10, 2) := by decide +kernel
theorem dL_rows_238 : decode cL_rows 238 = .ok (.iload 6, 2) := by decide +kernel
theorem dL_rows_240 : decode cL_rows 240 = .ok (.ifCond .lt 39, 3) := by decide +kernel
theorem dL_rows_243 : decode cL_rows 243 = .ok (.iload 10, 2) := by decide +kernel
theorem dL_rows_245 : decode cL_rows 245 = .ok (.ifCond .eq 34, 3) := by decide +kernel
theorem dL_rows_248 : decode cL_rows 248 = .ok (.aload_n 0, 1) := by decide +kernel
theorem dL_rows_249 : decode cL_rows 249 = .ok (.iload 5, 2) := by decide +kernel
theorem dL_rows_251 : decode cL_rows 251 = .ok (.iconst 0, 1) := by decide +kernel
theorem dL_rows_252 : decode cL_rows 252 = .ok (.invokevirtual 19, 3) := by decide +kernel
theorem dL_rows_255 : decode cL_rows 255 = .ok (.aload_n 0, 1) := by decide +kernel
theorem dL_rows_256 : decode cL_rows 256 = .ok (.iload 6, 2) := by decide +kernel
theorem dL_rows_258 : decode cL_rows 258 = .ok (.iconst 0, 1) := by decide +kernel
theorem dL_rows_259 : decode cL_rows 259 = .ok (.invokevirtual 19, 3) := by decide +kernel
theorem dL_rows_262 : decode cL_rows 262 = .ok (.if_icmp .le 17, 3) := by decide +kernel
theorem dL_rows_265 : decode cL_rows 265 = .ok (.aload_n 0, 1) := by decide +kernel
theorem dL_rows_266 : decode cL_rows 266 = .ok (.iload 4, 2) := by decide +kernel
theorem dL_rows_268 : decode cL_rows 268 = .ok (.bipush 9, 2) := by decide +kernel
theorem dL_rows_270 : decode cL_rows 270 = .ok (.invokevirtual 23, 3) := by decide +kernel
theorem dL_rows_273 : decode cL_rows 273 = .ok (.iconst 1, 1) := by decide +kernel
theorem dL_rows_274 : decode cL_rows 274 = .ok (.if_icmp .le 5, 3) := by decide +kernel
theorem dL_rows_277 : decode cL_rows 277 = .ok (.iconst 0, 1) := by decide +kernel
theorem dL_rows_278 : decode cL_rows 278 = .ok (.ireturn, 1) := by decide +kernel
theorem dL_rows_279 : decode cL_rows 279 = .ok (.aload_n 0, 1) := by decide +kernel
theorem dL_rows_280 : decode cL_rows 280 = .ok (.iload 5, 2) := by decide +kernel
theorem dL_rows_282 : decode cL_rows 282 = .ok (.iload 4, 2) := by decide +kernel
theorem dL_rows_284 : decode cL_rows 284 = .ok (.invokevirtual 120, 3) := by decide +kernel
theorem dL_rows_287 : decode cL_rows 287 = .ok (.istore 11, 2) := by decide +kernel
theorem dL_rows_289 : decode cL_rows 289 = .ok (.iload 10, 2) := by decide +kernel
theorem dL_rows_291 : decode cL_rows 291 = .ok (.ifCond .ne 18, 3) := by decide +kernel
theorem dL_rows_294 : decode cL_rows 294 = .ok (.iload 11, 2) := by decide +kernel
theorem dL_rows_296 : decode cL_rows 296 = .ok (.bipush (-4), 2) := by decide +kernel
theorem dL_rows_298 : decode cL_rows 298 = .ok (.if_icmp .ne 7, 3) := by decide +kernel
theorem dL_rows_301 : decode cL_rows 301 = .ok (.iconst 1, 1) := by decide +kernel
theorem dL_rows_302 : decode cL_rows 302 = .ok (.goto 68, 3) := by decide +kernel
theorem dL_rows_305 : decode cL_rows 305 = .ok (.iconst 0, 1) := by decide +kernel
theorem dL_rows_306 : decode cL_rows 306 = .ok (.goto 64, 3) := by decide +kernel
theorem dL_rows_309 : decode cL_rows 309 = .ok (.iload 7, 2) := by decide +kernel
theorem dL_rows_311 : decode cL_rows 311 = .ok (.iconst 4, 1) := by decide +kernel
theorem dL_rows_312 : decode cL_rows 312 = .ok (.if_icmp .ne 25, 3) := by decide +kernel
theorem dL_rows_315 : decode cL_rows 315 = .ok (.iload 11, 2) := by decide +kernel
theorem dL_rows_317 : decode cL_rows 317 = .ok (.bipush (-3), 2) := by decide +kernel
theorem dL_rows_319 : decode cL_rows 319 = .ok (.if_icmp .ne 14, 3) := by decide +kernel
theorem dL_rows_322 : decode cL_rows 322 = .ok (.iload 6, 2) := by decide +kernel
theorem dL_rows_324 : decode cL_rows 324 = .ok (.bipush (-5), 2) := by decide +kernel
theorem dL_rows_326 : decode cL_rows 326 = .ok (.if_icmp .ne 7, 3) := by decide +kernel
theorem dL_rows_329 : decode cL_rows 329 = .ok (.iconst 1, 1) := by decide +kernel
theorem dL_rows_330 : decode cL_rows 330 = .ok (.goto 40, 3) := by decide +kernel
theorem dL_rows_333 : decode cL_rows 333 = .ok (.iconst 0, 1) := by decide +kernel
theorem dL_rows_334 : decode cL_rows 334 = .ok (.goto 36, 3) := by decide +kernel
theorem dL_rows_337 : decode cL_rows 337 = .ok (.aload_n 0, 1) := by decide +kernel
theorem dL_rows_338 : decode cL_rows 338 = .ok (.iload 4, 2) := by decide +kernel
theorem dL_rows_340 : decode cL_rows 340 = .ok (.iload 7, 2) := by decide +kernel
theorem dL_rows_342 : decode cL_rows 342 = .ok (.iconst 0, 1) := by decide +kernel
theorem dL_rows_343 : decode cL_rows 343 = .ok (.invokevirtual 28, 3) := by decide +kernel
theorem dL_rows_346 : decode cL_rows 346 = .ok (.iload 5, 2) := by decide +kernel
theorem dL_rows_348 : decode cL_rows 348 = .ok (.if_icmp .ne 21, 3) := by decide +kernel
theorem dL_rows_351 : decode cL_rows 351 = .ok (.iload 11, 2) := by decide +kernel
theorem dL_rows_353 : decode cL_rows 353 = .ok (.aload_n 0, 1) := by decide +kernel
theorem dL_rows_354 : decode cL_rows 354 = .ok (.iload 4, 2) := by decide +kernel
theorem dL_rows_356 : decode cL_rows 356 = .ok (.iload 7, 2) := by decide +kernel
theorem dL_rows_358 : decode cL_rows 358 = .ok (.iconst 1, 1) := by decide +kernel
theorem dL_rows_359 : decode cL_rows 359 = .ok (.invokevirtual 28, 3) := by decide +kernel
theorem dL_rows_362 : decode cL_rows 362 = .ok (.if_icmp .ne 7, 3) := by decide +kernel
theorem dL_rows_365 : decode cL_rows 365 = .ok (.iconst 1, 1) := by decide +kernel
theorem dL_rows_366 : decode cL_rows 366 = .ok (.goto 4, 3) := by decide +kernel
theorem dL_rows_369 : decode cL_rows 369 = .ok (.iconst 0, 1) := by decide +kernel
theorem dL_rows_370 : decode cL_rows 370 = .ok (.ireturn, 1) := by decide +kernel
theorem dL_rows_371 : decode cL_rows 371 = .ok (.iconst (-1), 1) := by decide +kernel
theorem dL_rows_372 : decode cL_rows 372 = .ok (.istore 9, 2) := by decide +kernel
theorem dL_rows_374 : decode cL_rows 374 = .ok (.iconst 0, 1) := by decide +kernel
theorem dL_rows_375 : decode cL_rows 375 = .ok (.istore 10, 2) := by decide +kernel
theorem dL_rows_377 : decode cL_rows 377 = .ok (.iload 10, 2) := by decide +kernel
theorem dL_rows_379 : decode cL_rows 379 = .ok (.iload 7, 2) := by decide +kernel
theorem dL_rows_381 : decode cL_rows 381 = .ok (.if_icmp .ge 32, 3) := by decide +kernel
theorem dL_rows_384 : decode cL_rows 384 = .ok (.aload_n 0, 1) := by decide +kernel
theorem dL_rows_385 : decode cL_rows 385 = .ok (.iload 4, 2) := by decide +kernel
theorem dL_rows_387 : decode cL_rows 387 = .ok (.iload 10, 2) := by decide +kernel
theorem dL_rows_389 : decode cL_rows 389 = .ok (.iconst 0, 1) := by decide +kernel
theorem dL_rows_390 : decode cL_rows 390 = .ok (.invokevirtual 28, 3) := by decide +kernel
theorem dL_rows_393 : decode cL_rows 393 = .ok (.iload 5, 2) := by decide +kernel
theorem dL_rows_395 : decode cL_rows 395 = .ok (.if_icmp .ne 8, 3) := by decide +kernel
theorem dL_rows_398 : decode cL_rows 398 = .ok (.iload 10, 2) := by decide +kernel
theorem dL_rows_400 : decode cL_rows 400 = .ok (.goto 5, 3) := by decide +kernel
theorem dL_rows_403 : decode cL_rows 403 = .ok (.iload 9, 2) := by decide +kernel
theorem dL_rows_405 : decode cL_rows 405 = .ok (.istore 9, 2) := by decide +kernel
theorem dL_rows_407 : decode cL_rows 407 = .ok (.iinc 10 1, 3) := by decide +kernel
theorem dL_rows_410 : decode cL_rows 410 = .ok (.goto (-33), 3) := by decide +kernel
theorem dL_rows_413 : decode cL_rows 413 = .ok (.aload_n 0, 1) := by decide +kernel
theorem dL_rows_414 : decode cL_rows 414 = .ok (.iload 5, 2) := by decide +kernel
theorem dL_rows_416 : decode cL_rows 416 = .ok (.iload 4, 2) := by decide +kernel
theorem dL_rows_418 : decode cL_rows 418 = .ok (.invokevirtual 126, 3) := by decide +kernel
theorem dL_rows_421 : decode cL_rows 421 = .ok (.istore 10, 2) := by decide +kernel
theorem dL_rows_423 : decode cL_rows 423 = .ok (.iload 8, 2) := by decide +kernel
theorem dL_rows_425 : decode cL_rows 425 = .ok (.ifCond .ne 18, 3) := by decide +kernel
theorem dL_rows_428 : decode cL_rows 428 = .ok (.iload 10, 2) := by decide +kernel
theorem dL_rows_430 : decode cL_rows 430 = .ok (.bipush (-4), 2) := by decide +kernel
theorem dL_rows_432 : decode cL_rows 432 = .ok (.if_icmp .ne 7, 3) := by decide +kernel
theorem dL_rows_435 : decode cL_rows 435 = .ok (.iconst 1, 1) := by decide +kernel
theorem dL_rows_436 : decode cL_rows 436 = .ok (.goto 59, 3) := by decide +kernel
theorem dL_rows_439 : decode cL_rows 439 = .ok (.iconst 0, 1) := by decide +kernel
theorem dL_rows_440 : decode cL_rows 440 = .ok (.goto 55, 3) := by decide +kernel
theorem dL_rows_443 : decode cL_rows 443 = .ok (.iload 9, 2) := by decide +kernel
theorem dL_rows_445 : decode cL_rows 445 = .ok (.ifCond .ge 18, 3) := by decide +kernel
theorem dL_rows_448 : decode cL_rows 448 = .ok (.iload 10, 2) := by decide +kernel
theorem dL_rows_450 : decode cL_rows 450 = .ok (.bipush (-5), 2) := by decide +kernel
theorem dL_rows_452 : decode cL_rows 452 = .ok (.if_icmp .ne 7, 3) := by decide +kernel
theorem dL_rows_455 : decode cL_rows 455 = .ok (.iconst 1, 1) := by decide +kernel
theorem dL_rows_456 : decode cL_rows 456 = .ok (.goto 39, 3) := by decide +kernel
theorem dL_rows_459 : decode cL_rows 459 = .ok (.iconst 0, 1) := by decide +kernel
theorem dL_rows_460 : decode cL_rows 460 = .ok (.goto 35, 3) := by decide +kernel
theorem dL_rows_463 : decode cL_rows 463 = .ok (.iload 10, 2) := by decide +kernel
theorem dL_rows_465 : decode cL_rows 465 = .ok (.aload_n 0, 1) := by decide +kernel
theorem dL_rows_466 : decode cL_rows 466 = .ok (.iload 4, 2) := by decide +kernel
theorem dL_rows_468 : decode cL_rows 468 = .ok (.bipush 8, 2) := by decide +kernel
theorem dL_rows_470 : decode cL_rows 470 = .ok (.invokevirtual 23, 3) := by decide +kernel
theorem dL_rows_473 : decode cL_rows 473 = .ok (.if_icmp .ne 21, 3) := by decide +kernel
theorem dL_rows_476 : decode cL_rows 476 = .ok (.aload_n 0, 1) := by decide +kernel
theorem dL_rows_477 : decode cL_rows 477 = .ok (.iload 4, 2) := by decide +kernel
theorem dL_rows_479 : decode cL_rows 479 = .ok (.iconst 4, 1) := by decide +kernel
theorem dL_rows_480 : decode cL_rows 480 = .ok (.invokevirtual 23, 3) := by decide +kernel
theorem dL_rows_483 : decode cL_rows 483 = .ok (.iload 7, 2) := by decide +kernel
theorem dL_rows_485 : decode cL_rows 485 = .ok (.iconst 1, 1) := by decide +kernel
theorem dL_rows_486 : decode cL_rows 486 = .ok (.isub, 1) := by decide +kernel
theorem dL_rows_487 : decode cL_rows 487 = .ok (.if_icmp .ne 7, 3) := by decide +kernel
theorem dL_rows_490 : decode cL_rows 490 = .ok (.iconst 1, 1) := by decide +kernel
theorem dL_rows_491 : decode cL_rows 491 = .ok (.goto 4, 3) := by decide +kernel
theorem dL_rows_494 : decode cL_rows 494 = .ok (.iconst 0, 1) := by decide +kernel
theorem dL_rows_495 : decode cL_rows 495 = .ok (.ireturn, 1) := by decide +kernel
theorem dL_ends_0 : decode cL_ends 0 = .ok (.iload_n 2, 1) := by decide +kernel
theorem dL_ends_1 : decode cL_ends 1 = .ok (.aload_n 0, 1) := by decide +kernel
theorem dL_ends_2 : decode cL_ends 2 = .ok (.iconst 3, 1) := by decide +kernel
theorem dL_ends_3 : decode cL_ends 3 = .ok (.invokevirtual 13, 3) := by decide +kernel
theorem dL_ends_6 : decode cL_ends 6 = .ok (.invokestatic 65, 3) := by decide +kernel
theorem dL_ends_9 : decode cL_ends 9 = .ok (.istore 4, 2) := by decide +kernel
theorem dL_ends_11 : decode cL_ends 11 = .ok (.iload_n 3, 1) := by decide +kernel
theorem dL_ends_12 : decode cL_ends 12 = .ok (.aload_n 0, 1) := by decide +kernel
theorem dL_ends_13 : decode cL_ends 13 = .ok (.iconst 3, 1) := by decide +kernel
theorem dL_ends_14 : decode cL_ends 14 = .ok (.invokevirtual 13, 3) := by decide +kernel
theorem dL_ends_17 : decode cL_ends 17 = .ok (.invokestatic 65, 3) := by decide +kernel
theorem dL_ends_20 : decode cL_ends 20 = .ok (.istore 5, 2) := by decide +kernel
theorem dL_ends_22 : decode cL_ends 22 = .ok (.aload_n 0, 1) := by decide +kernel
theorem dL_ends_23 : decode cL_ends 23 = .ok (.iload 4, 2) := by decide +kernel
theorem dL_ends_25 : decode cL_ends 25 = .ok (.iconst 5, 1) := by decide +kernel
theorem dL_ends_26 : decode cL_ends 26 = .ok (.invokevirtual 23, 3) := by decide +kernel
theorem dL_ends_29 : decode cL_ends 29 = .ok (.istore 6, 2) := by decide +kernel
theorem dL_ends_31 : decode cL_ends 31 = .ok (.aload_n 0, 1) := by decide +kernel
theorem dL_ends_32 : decode cL_ends 32 = .ok (.bipush 9, 2) := by decide +kernel
theorem dL_ends_34 : decode cL_ends 34 = .ok (.invokevirtual 13, 3) := by decide +kernel
theorem dL_ends_37 : decode cL_ends 37 = .ok (.istore 7, 2) := by decide +kernel
theorem dL_ends_39 : decode cL_ends 39 = .ok (.aload_n 0, 1) := by decide +kernel
theorem dL_ends_40 : decode cL_ends 40 = .ok (.iload 4, 2) := by decide +kernel
theorem dL_ends_42 : decode cL_ends 42 = .ok (.bipush 6, 2) := by decide +kernel
theorem dL_ends_44 : decode cL_ends 44 = .ok (.invokevirtual 23, 3) := by decide +kernel
theorem dL_ends_47 : decode cL_ends 47 = .ok (.ifCond .ne 7, 3) := by decide +kernel
theorem dL_ends_50 : decode cL_ends 50 = .ok (.iconst 1, 1) := by decide +kernel
theorem dL_ends_51 : decode cL_ends 51 = .ok (.goto 4, 3) := by decide +kernel
theorem dL_ends_54 : decode cL_ends 54 = .ok (.iconst 0, 1) := by decide +kernel
theorem dL_ends_55 : decode cL_ends 55 = .ok (.istore 8, 2) := by decide +kernel
theorem dL_ends_57 : decode cL_ends 57 = .ok (.iload_n 1, 1) := by decide +kernel
theorem dL_ends_58 : decode cL_ends 58 = .ok (.bipush 12, 2) := by decide +kernel
theorem dL_ends_60 : decode cL_ends 60 = .ok (.if_icmp .ne 70, 3) := by decide +kernel
theorem dL_ends_63 : decode cL_ends 63 = .ok (.aload_n 0, 1) := by decide +kernel
theorem dL_ends_64 : decode cL_ends 64 = .ok (.iload 4, 2) := by decide +kernel
theorem dL_ends_66 : decode cL_ends 66 = .ok (.invokevirtual 129, 3) := by decide +kernel
theorem dL_ends_69 : decode cL_ends 69 = .ok (.istore 9, 2) := by decide +kernel
theorem dL_ends_71 : decode cL_ends 71 = .ok (.iload 8, 2) := by decide +kernel
theorem dL_ends_73 : decode cL_ends 73 = .ok (.ifCond .eq 44, 3) := by decide +kernel
theorem dL_ends_76 : decode cL_ends 76 = .ok (.iload 9, 2) := by decide +kernel
theorem dL_ends_78 : decode cL_ends 78 = .ok (.iload 6, 2) := by decide +kernel
theorem dL_ends_80 : decode cL_ends 80 = .ok (.if_icmp .ne 33, 3) := by decide +kernel
theorem dL_ends_83 : decode cL_ends 83 = .ok (.aload_n 0, 1) := by decide +kernel
theorem dL_ends_84 : decode cL_ends 84 = .ok (.iload 4, 2) := by decide +kernel
theorem dL_ends_86 : decode cL_ends 86 = .ok (.bipush 7, 2) := by decide +kernel
theorem dL_ends_88 : decode cL_ends 88 = .ok (.invokevirtual 23, 3) := by decide +kernel
theorem dL_ends_91 : decode cL_ends 91 = .ok (.iconst 4, 1) := by decide +kernel
theorem dL_ends_92 : decode cL_ends 92 = .ok (.if_icmp .ne 21, 3) := by decide +kernel
theorem dL_ends_95 : decode cL_ends 95 = .ok (.aload_n 0, 1) := by decide +kernel
theorem dL_ends_96 : decode cL_ends 96 = .ok (.bipush 9, 2) := by decide +kernel
theorem dL_ends_98 : decode cL_ends 98 = .ok (.invokevirtual 13, 3) := by decide +kernel
theorem dL_ends_101 : decode cL_ends 101 = .ok (.iload 7, 2) := by decide +kernel
theorem dL_ends_103 : decode cL_ends 103 = .ok (.iload 6, 2) := by decide +kernel
theorem dL_ends_105 : decode cL_ends 105 = .ok (.iadd, 1) := by decide +kernel
theorem dL_ends_106 : decode cL_ends 106 = .ok (.if_icmp .ne 7, 3) := by decide +kernel
theorem dL_ends_109 : decode cL_ends 109 = .ok (.iconst 1, 1) := by decide +kernel
theorem dL_ends_110 : decode cL_ends 110 = .ok (.goto 19, 3) := by decide +kernel
theorem dL_ends_113 : decode cL_ends 113 = .ok (.iconst 0, 1) := by decide +kernel
theorem dL_ends_114 : decode cL_ends 114 = .ok (.goto 15, 3) := by decide +kernel
theorem dL_ends_117 : decode cL_ends 117 = .ok (.iload 9, 2) := by decide +kernel
theorem dL_ends_119 : decode cL_ends 119 = .ok (.bipush (-4), 2) := by decide +kernel
theorem dL_ends_121 : decode cL_ends 121 = .ok (.if_icmp .ne 7, 3) := by decide +kernel
theorem dL_ends_124 : decode cL_ends 124 = .ok (.iconst 1, 1) := by decide +kernel
theorem dL_ends_125 : decode cL_ends 125 = .ok (.goto 4, 3) := by decide +kernel
theorem dL_ends_128 : decode cL_ends 128 = .ok (.iconst 0, 1) := by decide +kernel
theorem dL_ends_129 : decode cL_ends 129 = .ok (.ireturn, 1) := by decide +kernel
theorem dL_ends_130 : decode cL_ends 130 = .ok (.aload_n 0, 1) := by decide +kernel
theorem dL_ends_131 : decode cL_ends 131 = .ok (.iload 5, 2) := by decide +kernel
theorem dL_ends_133 : decode cL_ends 133 = .ok (.iconst 3, 1) := by decide +kernel
theorem dL_ends_134 : decode cL_ends 134 = .ok (.invokevirtual 23, 3) := by decide +kernel
theorem dL_ends_137 : decode cL_ends 137 = .ok (.istore 9, 2) := by decide +kernel
theorem dL_ends_139 : decode cL_ends 139 = .ok (.aload_n 0, 1) := by decide +kernel
theorem dL_ends_140 : decode cL_ends 140 = .ok (.bipush 8, 2) := by decide +kernel
theorem dL_ends_142 : decode cL_ends 142 = .ok (.invokevirtual 13, 3) := by decide +kernel
theorem dL_ends_145 : decode cL_ends 145 = .ok (.istore 10, 2) := by decide +kernel
theorem dL_ends_147 : decode cL_ends 147 = .ok (.aload_n 0, 1) := by decide +kernel
theorem dL_ends_148 : decode cL_ends 148 = .ok (.iload 4, 2) := by decide +kernel
theorem dL_ends_150 : decode cL_ends 150 = .ok (.iconst 3, 1) := by decide +kernel
theorem dL_ends_151 : decode cL_ends 151 = .ok (.invokevirtual 23, 3) := by decide +kernel
theorem dL_ends_154 : decode cL_ends 154 = .ok (.istore 11, 2) := by decide +kernel
theorem dL_ends_156 : decode cL_ends 156 = .ok (.aload_n 0, 1) := by decide +kernel
theorem dL_ends_157 : decode cL_ends 157 = .ok (.iload 4, 2) := by decide +kernel
theorem dL_ends_159 : decode cL_ends 159 = .ok (.iload 5, 2) := by decide +kernel
theorem dL_ends_161 : decode cL_ends 161 = .ok (.invokevirtual 132, 3) := by decide +kernel
theorem dL_ends_164 : decode cL_ends 164 = .ok (.istore 12, 2) := by decide +kernel
theorem dL_ends_166 : decode cL_ends 166 = .ok (.iload 4, 2) := by decide +kernel
theorem dL_ends_168 : decode cL_ends 168 = .ok (.iload 5, 2) := by decide +kernel
theorem dL_ends_170 : decode cL_ends 170 = .ok (.if_icmp .ne 16, 3) := by decide +kernel
theorem dL_ends_173 : decode cL_ends 173 = .ok (.iload 12, 2) := by decide +kernel
theorem dL_ends_175 : decode cL_ends 175 = .ok (.bipush (-2), 2) := by decide +kernel
theorem dL_ends_177 : decode cL_ends 177 = .ok (.if_icmp .ne 7, 3) := by decide +kernel
theorem dL_ends_180 : decode cL_ends 180 = .ok (.iconst 1, 1) := by decide +kernel
theorem dL_ends_181 : decode cL_ends 181 = .ok (.goto 4, 3) := by decide +kernel
theorem dL_ends_184 : decode cL_ends 184 = .ok (.iconst 0, 1) := by decide +kernel
theorem dL_ends_185 : decode cL_ends 185 = .ok (.ireturn, 1) := by decide +kernel
theorem dL_ends_186 : decode cL_ends 186 = .ok (.iload 12, 2) := by decide +kernel
theorem dL_ends_188 : decode cL_ends 188 = .ok (.bipush (-4), 2) := by decide +kernel
theorem dL_ends_190 : decode cL_ends 190 = .ok (.if_icmp .eq 85, 3) := by decide +kernel
theorem dL_ends_193 : decode cL_ends 193 = .ok (.iload 12, 2) := by decide +kernel
theorem dL_ends_195 : decode cL_ends 195 = .ok (.ifCond .lt 84, 3) := by decide +kernel
theorem dL_ends_198 : decode cL_ends 198 = .ok (.iload 8, 2) := by decide +kernel
theorem dL_ends_200 : decode cL_ends 200 = .ok (.ifCond .eq 79, 3) := by decide +kernel
theorem dL_ends_203 : decode cL_ends 203 = .ok (.aload_n 0, 1) := by decide +kernel
theorem dL_ends_204 : decode cL_ends 204 = .ok (.iload 5, 2) := by decide +kernel
theorem dL_ends_206 : decode cL_ends 206 = .ok (.iconst 3, 1) := by decide +kernel
theorem dL_ends_207 : decode cL_ends 207 = .ok (.invokevirtual 23, 3) := by decide +kernel
theorem dL_ends_210 : decode cL_ends 210 = .ok (.iload 9, 2) := by decide +kernel
theorem dL_ends_212 : decode cL_ends 212 = .ok (.iload 11, 2) := by decide +kernel
theorem dL_ends_214 : decode cL_ends 214 = .ok (.iadd, 1) := by decide +kernel
theorem dL_ends_215 : decode cL_ends 215 = .ok (.if_icmp .ne 64, 3) := by decide +kernel
theorem dL_ends_218 : decode cL_ends 218 = .ok (.aload_n 0, 1) := by decide +kernel
theorem dL_ends_219 : decode cL_ends 219 = .ok (.iload 4, 2) := by decide +kernel
theorem dL_ends_221 : decode cL_ends 221 = .ok (.bipush 6, 2) := by decide +kernel
theorem dL_ends_223 : decode cL_ends 223 = .ok (.invokevirtual 23, 3) := by decide +kernel
theorem dL_ends_226 : decode cL_ends 226 = .ok (.iconst 3, 1) := by decide +kernel
theorem dL_ends_227 : decode cL_ends 227 = .ok (.if_icmp .ne 52, 3) := by decide +kernel
theorem dL_ends_230 : decode cL_ends 230 = .ok (.aload_n 0, 1) := by decide +kernel
theorem dL_ends_231 : decode cL_ends 231 = .ok (.bipush 8, 2) := by decide +kernel
theorem dL_ends_233 : decode cL_ends 233 = .ok (.invokevirtual 13, 3) := by decide +kernel
theorem dL_ends_236 : decode cL_ends 236 = .ok (.iload 10, 2) := by decide +kernel
theorem dL_ends_238 : decode cL_ends 238 = .ok (.iload 12, 2) := by decide +kernel
theorem dL_ends_240 : decode cL_ends 240 = .ok (.isub, 1) := by decide +kernel
theorem dL_ends_241 : decode cL_ends 241 = .ok (.if_icmp .ne 38, 3) := by decide +kernel
theorem dL_ends_244 : decode cL_ends 244 = .ok (.aload_n 0, 1) := by decide +kernel
theorem dL_ends_245 : decode cL_ends 245 = .ok (.bipush 9, 2) := by decide +kernel
theorem dL_ends_247 : decode cL_ends 247 = .ok (.invokevirtual 13, 3) := by decide +kernel
theorem dL_ends_250 : decode cL_ends 250 = .ok (.iload 7, 2) := by decide +kernel
theorem dL_ends_252 : decode cL_ends 252 = .ok (.iload 12, 2) := by decide +kernel
theorem dL_ends_254 : decode cL_ends 254 = .ok (.iadd, 1) := by decide +kernel
theorem dL_ends_255 : decode cL_ends 255 = .ok (.if_icmp .ne 24, 3) := by decide +kernel
theorem dL_ends_258 : decode cL_ends 258 = .ok (.aload_n 0, 1) := by decide +kernel
theorem dL_ends_259 : decode cL_ends 259 = .ok (.iload 5, 2) := by decide +kernel
theorem dL_ends_261 : decode cL_ends 261 = .ok (.iconst 0, 1) := by decide +kernel
theorem dL_ends_262 : decode cL_ends 262 = .ok (.invokevirtual 23, 3) := by decide +kernel
theorem dL_ends_265 : decode cL_ends 265 = .ok (.aload_n 0, 1) := by decide +kernel
theorem dL_ends_266 : decode cL_ends 266 = .ok (.iload 4, 2) := by decide +kernel
theorem dL_ends_268 : decode cL_ends 268 = .ok (.iconst 0, 1) := by decide +kernel
theorem dL_ends_269 : decode cL_ends 269 = .ok (.invokevirtual 23, 3) := by decide +kernel
theorem dL_ends_272 : decode cL_ends 272 = .ok (.if_icmp .ne 7, 3) := by decide +kernel
theorem dL_ends_275 : decode cL_ends 275 = .ok (.iconst 1, 1) := by decide +kernel
theorem dL_ends_276 : decode cL_ends 276 = .ok (.goto 4, 3) := by decide +kernel
theorem dL_ends_279 : decode cL_ends 279 = .ok (.iconst 0, 1) := by decide +kernel
theorem dL_ends_280 : decode cL_ends 280 = .ok (.ireturn, 1) := by decide +kernel
theorem dL_passes_0 : decode cL_passes 0 = .ok (.aload_n 0, 1) := by decide +kernel
theorem dL_passes_1 : decode cL_passes 1 = .ok (.invokevirtual 135, 3) := by decide +kernel
theorem dL_passes_4 : decode cL_passes 4 = .ok (.istore_n 3, 1) := by decide +kernel
theorem dL_passes_5 : decode cL_passes 5 = .ok (.aload_n 0, 1) := by decide +kernel
theorem dL_passes_6 : decode cL_passes 6 = .ok (.iconst 0, 1) := by decide +kernel
theorem dL_passes_7 : decode cL_passes 7 = .ok (.iload_n 1, 1) := by decide +kernel
theorem dL_passes_8 : decode cL_passes 8 = .ok (.iload_n 2, 1) := by decide +kernel
theorem dL_passes_9 : decode cL_passes 9 = .ok (.iadd, 1) := by decide +kernel
theorem dL_passes_10 : decode cL_passes 10 = .ok (.invokevirtual 139, 3) := by decide +kernel
theorem dL_passes_13 : decode cL_passes 13 = .ok (.dstore 4, 2) := by decide +kernel
theorem dL_passes_15 : decode cL_passes 15 = .ok (.aload_n 0, 1) := by decide +kernel
theorem dL_passes_16 : decode cL_passes 16 = .ok (.iload_n 1, 1) := by decide +kernel
theorem dL_passes_17 : decode cL_passes 17 = .ok (.iload_n 2, 1) := by decide +kernel
theorem dL_passes_18 : decode cL_passes 18 = .ok (.iadd, 1) := by decide +kernel
theorem dL_passes_19 : decode cL_passes 19 = .ok (.invokevirtual 143, 3) := by decide +kernel
theorem dL_passes_22 : decode cL_passes 22 = .ok (.istore 6, 2) := by decide +kernel
theorem dL_passes_24 : decode cL_passes 24 = .ok (.aload_n 0, 1) := by decide +kernel
theorem dL_passes_25 : decode cL_passes 25 = .ok (.invokestatic 146, 3) := by decide +kernel
theorem dL_passes_28 : decode cL_passes 28 = .ok (.lstore 7, 2) := by decide +kernel
theorem dL_passes_30 : decode cL_passes 30 = .ok (.aload_n 0, 1) := by decide +kernel
theorem dL_passes_31 : decode cL_passes 31 = .ok (.iconst 0, 1) := by decide +kernel
theorem dL_passes_32 : decode cL_passes 32 = .ok (.invokevirtual 35, 3) := by decide +kernel
theorem dL_passes_35 : decode cL_passes 35 = .ok (.dstore 9, 2) := by decide +kernel
theorem dL_passes_37 : decode cL_passes 37 = .ok (.dload 4, 2) := by decide +kernel
theorem dL_passes_39 : decode cL_passes 39 = .ok (.dload 9, 2) := by decide +kernel
theorem dL_passes_41 : decode cL_passes 41 = .ok (.dcmp .l, 1) := by decide +kernel
theorem dL_passes_42 : decode cL_passes 42 = .ok (.ifCond .eq 19, 3) := by decide +kernel
theorem dL_passes_45 : decode cL_passes 45 = .ok (.dload 4, 2) := by decide +kernel
theorem dL_passes_47 : decode cL_passes 47 = .ok (.dload 4, 2) := by decide +kernel
theorem dL_passes_49 : decode cL_passes 49 = .ok (.dcmp .l, 1) := by decide +kernel
theorem dL_passes_50 : decode cL_passes 50 = .ok (.ifCond .eq 15, 3) := by decide +kernel
theorem dL_passes_53 : decode cL_passes 53 = .ok (.dload 9, 2) := by decide +kernel
theorem dL_passes_55 : decode cL_passes 55 = .ok (.dload 9, 2) := by decide +kernel
theorem dL_passes_57 : decode cL_passes 57 = .ok (.dcmp .l, 1) := by decide +kernel
theorem dL_passes_58 : decode cL_passes 58 = .ok (.ifCond .eq 7, 3) := by decide +kernel
theorem dL_passes_61 : decode cL_passes 61 = .ok (.iconst 1, 1) := by decide +kernel
theorem dL_passes_62 : decode cL_passes 62 = .ok (.goto 4, 3) := by decide +kernel
theorem dL_passes_65 : decode cL_passes 65 = .ok (.iconst 0, 1) := by decide +kernel
theorem dL_passes_66 : decode cL_passes 66 = .ok (.istore 11, 2) := by decide +kernel
theorem dL_passes_68 : decode cL_passes 68 = .ok (.iload 11, 2) := by decide +kernel
theorem dL_passes_70 : decode cL_passes 70 = .ok (.ifCond .eq 35, 3) := by decide +kernel
theorem dL_passes_73 : decode cL_passes 73 = .ok (.aload_n 0, 1) := by decide +kernel
theorem dL_passes_74 : decode cL_passes 74 = .ok (.iconst 0, 1) := by decide +kernel
theorem dL_passes_75 : decode cL_passes 75 = .ok (.invokevirtual 13, 3) := by decide +kernel
theorem dL_passes_78 : decode cL_passes 78 = .ok (.iload_n 3, 1) := by decide +kernel
theorem dL_passes_79 : decode cL_passes 79 = .ok (.iload_n 1, 1) := by decide +kernel
theorem dL_passes_80 : decode cL_passes 80 = .ok (.iadd, 1) := by decide +kernel
theorem dL_passes_81 : decode cL_passes 81 = .ok (.iload_n 2, 1) := by decide +kernel
theorem dL_passes_82 : decode cL_passes 82 = .ok (.iadd, 1) := by decide +kernel
theorem dL_passes_83 : decode cL_passes 83 = .ok (.if_icmp .ne 22, 3) := by decide +kernel
theorem dL_passes_86 : decode cL_passes 86 = .ok (.aload_n 0, 1) := by decide +kernel
theorem dL_passes_87 : decode cL_passes 87 = .ok (.invokevirtual 150, 3) := by decide +kernel
theorem dL_passes_90 : decode cL_passes 90 = .ok (.iload_n 3, 1) := by decide +kernel
theorem dL_passes_91 : decode cL_passes 91 = .ok (.if_icmp .ne 14, 3) := by decide +kernel
theorem dL_passes_94 : decode cL_passes 94 = .ok (.aload_n 0, 1) := by decide +kernel
theorem dL_passes_95 : decode cL_passes 95 = .ok (.bipush 31, 2) := by decide +kernel
theorem dL_passes_97 : decode cL_passes 97 = .ok (.invokevirtual 143, 3) := by decide +kernel
theorem dL_passes_100 : decode cL_passes 100 = .ok (.bipush (-2), 2) := by decide +kernel
theorem dL_passes_102 : decode cL_passes 102 = .ok (.if_icmp .eq 5, 3) := by decide +kernel
theorem dL_passes_105 : decode cL_passes 105 = .ok (.iconst 0, 1) := by decide +kernel
theorem dL_passes_106 : decode cL_passes 106 = .ok (.ireturn, 1) := by decide +kernel
theorem dL_passes_107 : decode cL_passes 107 = .ok (.aload_n 0, 1) := by decide +kernel
theorem dL_passes_108 : decode cL_passes 108 = .ok (.iload_n 1, 1) := by decide +kernel
theorem dL_passes_109 : decode cL_passes 109 = .ok (.invokevirtual 143, 3) := by decide +kernel
theorem dL_passes_112 : decode cL_passes 112 = .ok (.istore 12, 2) := by decide +kernel
theorem dL_passes_114 : decode cL_passes 114 = .ok (.iload 12, 2) := by decide +kernel
theorem dL_passes_116 : decode cL_passes 116 = .ok (.aload_n 0, 1) := by decide +kernel
theorem dL_passes_117 : decode cL_passes 117 = .ok (.iload_n 2, 1) := by decide +kernel
theorem dL_passes_118 : decode cL_passes 118 = .ok (.invokevirtual 143, 3) := by decide +kernel
theorem dL_passes_121 : decode cL_passes 121 = .ok (.iadd, 1) := by decide +kernel
theorem dL_passes_122 : decode cL_passes 122 = .ok (.iload 6, 2) := by decide +kernel
theorem dL_passes_124 : decode cL_passes 124 = .ok (.if_icmp .ne 17, 3) := by decide +kernel
theorem dL_passes_127 : decode cL_passes 127 = .ok (.aload_n 0, 1) := by decide +kernel
theorem dL_passes_128 : decode cL_passes 128 = .ok (.invokestatic 146, 3) := by decide +kernel
theorem dL_passes_131 : decode cL_passes 131 = .ok (.lload 7, 2) := by decide +kernel
theorem dL_passes_133 : decode cL_passes 133 = .ok (.lcmp, 1) := by decide +kernel
theorem dL_passes_134 : decode cL_passes 134 = .ok (.ifCond .ne 7, 3) := by decide +kernel
theorem dL_passes_137 : decode cL_passes 137 = .ok (.iconst 1, 1) := by decide +kernel
theorem dL_passes_138 : decode cL_passes 138 = .ok (.goto 4, 3) := by decide +kernel
theorem dL_passes_141 : decode cL_passes 141 = .ok (.iconst 0, 1) := by decide +kernel
theorem dL_passes_142 : decode cL_passes 142 = .ok (.ireturn, 1) := by decide +kernel
theorem dL_law_0 : decode cL_law 0 = .ok (.new 14, 3) := by decide +kernel
theorem dL_law_3 : decode cL_law 3 = .ok (.dup, 1) := by decide +kernel
theorem dL_law_4 : decode cL_law 4 = .ok (.invokespecial 153, 3) := by decide +kernel
theorem dL_law_7 : decode cL_law 7 = .ok (.astore_n 1, 1) := by decide +kernel
theorem dL_law_8 : decode cL_law 8 = .ok (.aload_n 1, 1) := by decide +kernel
theorem dL_law_9 : decode cL_law 9 = .ok (.iconst 0, 1) := by decide +kernel
theorem dL_law_10 : decode cL_law 10 = .ok (.invokevirtual 35, 3) := by decide +kernel
theorem dL_law_13 : decode cL_law 13 = .ok (.dstore_n 2, 1) := by decide +kernel
theorem dL_law_14 : decode cL_law 14 = .ok (.aload_n 1, 1) := by decide +kernel
theorem dL_law_15 : decode cL_law 15 = .ok (.iconst 0, 1) := by decide +kernel
theorem dL_law_16 : decode cL_law 16 = .ok (.invokevirtual 49, 3) := by decide +kernel
theorem dL_law_19 : decode cL_law 19 = .ok (.dstore 4, 2) := by decide +kernel
theorem dL_law_21 : decode cL_law 21 = .ok (.aload_n 1, 1) := by decide +kernel
theorem dL_law_22 : decode cL_law 22 = .ok (.invokevirtual 154, 3) := by decide +kernel
theorem dL_law_25 : decode cL_law 25 = .ok (.bipush (-5), 2) := by decide +kernel
theorem dL_law_27 : decode cL_law 27 = .ok (.if_icmp .ne 63, 3) := by decide +kernel
theorem dL_law_30 : decode cL_law 30 = .ok (.aload_n 1, 1) := by decide +kernel
theorem dL_law_31 : decode cL_law 31 = .ok (.invokevirtual 150, 3) := by decide +kernel
theorem dL_law_34 : decode cL_law 34 = .ok (.bipush (-5), 2) := by decide +kernel
theorem dL_law_36 : decode cL_law 36 = .ok (.if_icmp .ne 54, 3) := by decide +kernel
theorem dL_law_39 : decode cL_law 39 = .ok (.aload_n 1, 1) := by decide +kernel
theorem dL_law_40 : decode cL_law 40 = .ok (.invokevirtual 157, 3) := by decide +kernel
theorem dL_law_43 : decode cL_law 43 = .ok (.bipush (-100), 2) := by decide +kernel
theorem dL_law_45 : decode cL_law 45 = .ok (.if_icmp .ne 45, 3) := by decide +kernel
theorem dL_law_48 : decode cL_law 48 = .ok (.aload_n 1, 1) := by decide +kernel
theorem dL_law_49 : decode cL_law 49 = .ok (.iconst 0, 1) := by decide +kernel
theorem dL_law_50 : decode cL_law 50 = .ok (.iconst 0, 1) := by decide +kernel
theorem dL_law_51 : decode cL_law 51 = .ok (.invokevirtual 132, 3) := by decide +kernel
theorem dL_law_54 : decode cL_law 54 = .ok (.iconst (-1), 1) := by decide +kernel
theorem dL_law_55 : decode cL_law 55 = .ok (.if_icmp .ne 35, 3) := by decide +kernel
theorem dL_law_58 : decode cL_law 58 = .ok (.aload_n 1, 1) := by decide +kernel
theorem dL_law_59 : decode cL_law 59 = .ok (.iconst 0, 1) := by decide +kernel
theorem dL_law_60 : decode cL_law 60 = .ok (.invokevirtual 123, 3) := by decide +kernel
theorem dL_law_63 : decode cL_law 63 = .ok (.iconst (-1), 1) := by decide +kernel
theorem dL_law_64 : decode cL_law 64 = .ok (.if_icmp .ne 26, 3) := by decide +kernel
theorem dL_law_67 : decode cL_law 67 = .ok (.aload_n 1, 1) := by decide +kernel
theorem dL_law_68 : decode cL_law 68 = .ok (.invokevirtual 41, 3) := by decide +kernel
theorem dL_law_71 : decode cL_law 71 = .ok (.lconst 0, 1) := by decide +kernel
theorem dL_law_72 : decode cL_law 72 = .ok (.lcmp, 1) := by decide +kernel
theorem dL_law_73 : decode cL_law 73 = .ok (.ifCond .ne 17, 3) := by decide +kernel
theorem dL_law_76 : decode cL_law 76 = .ok (.dload_n 2, 1) := by decide +kernel
theorem dL_law_77 : decode cL_law 77 = .ok (.dload_n 2, 1) := by decide +kernel
theorem dL_law_78 : decode cL_law 78 = .ok (.dcmp .l, 1) := by decide +kernel
theorem dL_law_79 : decode cL_law 79 = .ok (.ifCond .eq 11, 3) := by decide +kernel
theorem dL_law_82 : decode cL_law 82 = .ok (.dload 4, 2) := by decide +kernel
theorem dL_law_84 : decode cL_law 84 = .ok (.dload 4, 2) := by decide +kernel
theorem dL_law_86 : decode cL_law 86 = .ok (.dcmp .l, 1) := by decide +kernel
theorem dL_law_87 : decode cL_law 87 = .ok (.ifCond .ne 5, 3) := by decide +kernel
theorem dL_law_90 : decode cL_law 90 = .ok (.iconst 0, 1) := by decide +kernel
theorem dL_law_91 : decode cL_law 91 = .ok (.ireturn, 1) := by decide +kernel
theorem dL_law_92 : decode cL_law 92 = .ok (.iconst 0, 1) := by decide +kernel
theorem dL_law_93 : decode cL_law 93 = .ok (.istore 6, 2) := by decide +kernel
theorem dL_law_95 : decode cL_law 95 = .ok (.iload 6, 2) := by decide +kernel
theorem dL_law_97 : decode cL_law 97 = .ok (.bipush 28, 2) := by decide +kernel
theorem dL_law_99 : decode cL_law 99 = .ok (.if_icmp .ge 387, 3) := by decide +kernel
theorem dL_law_102 : decode cL_law 102 = .ok (.aload_n 0, 1) := by decide +kernel
theorem dL_law_103 : decode cL_law 103 = .ok (.iconst 2, 1) := by decide +kernel
theorem dL_law_104 : decode cL_law 104 = .ok (.iload 6, 2) := by decide +kernel
theorem dL_law_106 : decode cL_law 106 = .ok (.imul, 1) := by decide +kernel
theorem dL_law_107 : decode cL_law 107 = .ok (.invokestatic 160, 3) := by decide +kernel
theorem dL_law_110 : decode cL_law 110 = .ok (.istore 7, 2) := by decide +kernel
theorem dL_law_112 : decode cL_law 112 = .ok (.aload_n 0, 1) := by decide +kernel
theorem dL_law_113 : decode cL_law 113 = .ok (.iconst 2, 1) := by decide +kernel
theorem dL_law_114 : decode cL_law 114 = .ok (.iload 6, 2) := by decide +kernel
theorem dL_law_116 : decode cL_law 116 = .ok (.imul, 1) := by decide +kernel
theorem dL_law_117 : decode cL_law 117 = .ok (.iconst 1, 1) := by decide +kernel
theorem dL_law_118 : decode cL_law 118 = .ok (.iadd, 1) := by decide +kernel
theorem dL_law_119 : decode cL_law 119 = .ok (.invokestatic 160, 3) := by decide +kernel
theorem dL_law_122 : decode cL_law 122 = .ok (.istore 8, 2) := by decide +kernel
theorem dL_law_124 : decode cL_law 124 = .ok (.iload 6, 2) := by decide +kernel
theorem dL_law_126 : decode cL_law 126 = .ok (.iconst 2, 1) := by decide +kernel
theorem dL_law_127 : decode cL_law 127 = .ok (.if_icmp .ge 7, 3) := by decide +kernel
theorem dL_law_130 : decode cL_law 130 = .ok (.iconst 0, 1) := by decide +kernel
theorem dL_law_131 : decode cL_law 131 = .ok (.goto 33, 3) := by decide +kernel
theorem dL_law_134 : decode cL_law 134 = .ok (.iload 6, 2) := by decide +kernel
theorem dL_law_136 : decode cL_law 136 = .ok (.iconst 2, 1) := by decide +kernel
theorem dL_law_137 : decode cL_law 137 = .ok (.if_icmp .ne 7, 3) := by decide +kernel
theorem dL_law_140 : decode cL_law 140 = .ok (.iconst 1, 1) := by decide +kernel
theorem dL_law_141 : decode cL_law 141 = .ok (.goto 23, 3) := by decide +kernel
theorem dL_law_144 : decode cL_law 144 = .ok (.iload 6, 2) := by decide +kernel
theorem dL_law_146 : decode cL_law 146 = .ok (.iconst 5, 1) := by decide +kernel
theorem dL_law_147 : decode cL_law 147 = .ok (.if_icmp .ge 7, 3) := by decide +kernel
theorem dL_law_150 : decode cL_law 150 = .ok (.iconst 3, 1) := by decide +kernel
theorem dL_law_151 : decode cL_law 151 = .ok (.goto 13, 3) := by decide +kernel
theorem dL_law_154 : decode cL_law 154 = .ok (.iload 7, 2) := by decide +kernel
theorem dL_law_156 : decode cL_law 156 = .ok (.bipush 9, 2) := by decide +kernel
theorem dL_law_158 : decode cL_law 158 = .ok (.ishr, 1) := by decide +kernel
theorem dL_law_159 : decode cL_law 159 = .ok (.bipush 18, 2) := by decide +kernel
theorem dL_law_161 : decode cL_law 161 = .ok (.invokestatic 65, 3) := by decide +kernel
theorem dL_law_164 : decode cL_law 164 = .ok (.istore 9, 2) := by decide +kernel
theorem dL_law_166 : decode cL_law 166 = .ok (.aload_n 1, 1) := by decide +kernel
theorem dL_law_167 : decode cL_law 167 = .ok (.bipush 11, 2) := by decide +kernel
theorem dL_law_169 : decode cL_law 169 = .ok (.invokevirtual 13, 3) := by decide +kernel
theorem dL_law_172 : decode cL_law 172 = .ok (.istore 10, 2) := by decide +kernel
theorem dL_law_174 : decode cL_law 174 = .ok (.aload_n 1, 1) := by decide +kernel
theorem dL_law_175 : decode cL_law 175 = .ok (.invokestatic 146, 3) := by decide +kernel
theorem dL_law_178 : decode cL_law 178 = .ok (.lstore 11, 2) := by decide +kernel
theorem dL_law_180 : decode cL_law 180 = .ok (.iconst 1, 1) := by decide +kernel
theorem dL_law_181 : decode cL_law 181 = .ok (.istore 13, 2) := by decide +kernel
theorem dL_law_183 : decode cL_law 183 = .ok (.iload 9, 2) := by decide +kernel
theorem dL_law_185 : decode cL_law 185 = .ok (.iconst 4, 1) := by decide +kernel
theorem dL_law_186 : decode cL_law 186 = .ok (.if_icmp .ge 18, 3) := by decide +kernel
theorem dL_law_189 : decode cL_law 189 = .ok (.aload_n 1, 1) := by decide +kernel
theorem dL_law_190 : decode cL_law 190 = .ok (.iload 9, 2) := by decide +kernel
theorem dL_law_192 : decode cL_law 192 = .ok (.iload 7, 2) := by decide +kernel
theorem dL_law_194 : decode cL_law 194 = .ok (.iload 8, 2) := by decide +kernel
theorem dL_law_196 : decode cL_law 196 = .ok (.invokestatic 164, 3) := by decide +kernel
theorem dL_law_199 : decode cL_law 199 = .ok (.istore 13, 2) := by decide +kernel
theorem dL_law_201 : decode cL_law 201 = .ok (.goto 141, 3) := by decide +kernel
theorem dL_law_204 : decode cL_law 204 = .ok (.iload 9, 2) := by decide +kernel
theorem dL_law_206 : decode cL_law 206 = .ok (.bipush 8, 2) := by decide +kernel
theorem dL_law_208 : decode cL_law 208 = .ok (.if_icmp .ge 34, 3) := by decide +kernel
theorem dL_law_211 : decode cL_law 211 = .ok (.aload_n 1, 1) := by decide +kernel
theorem dL_law_212 : decode cL_law 212 = .ok (.iconst 3, 1) := by decide +kernel
theorem dL_law_213 : decode cL_law 213 = .ok (.invokevirtual 13, 3) := by decide +kernel
theorem dL_law_216 : decode cL_law 216 = .ok (.ifCond .eq 16, 3) := by decide +kernel
theorem dL_law_219 : decode cL_law 219 = .ok (.aload_n 1, 1) := by decide +kernel
theorem dL_law_220 : decode cL_law 220 = .ok (.iload 9, 2) := by decide +kernel
theorem dL_law_222 : decode cL_law 222 = .ok (.iload 7, 2) := by decide +kernel
theorem dL_law_224 : decode cL_law 224 = .ok (.iload 8, 2) := by decide +kernel
theorem dL_law_226 : decode cL_law 226 = .ok (.invokestatic 168, 3) := by decide +kernel
theorem dL_law_229 : decode cL_law 229 = .ok (.ifCond .eq 7, 3) := by decide +kernel
theorem dL_law_232 : decode cL_law 232 = .ok (.iconst 1, 1) := by decide +kernel
theorem dL_law_233 : decode cL_law 233 = .ok (.goto 4, 3) := by decide +kernel
theorem dL_law_236 : decode cL_law 236 = .ok (.iconst 0, 1) := by decide +kernel
theorem dL_law_237 : decode cL_law 237 = .ok (.istore 13, 2) := by decide +kernel
theorem dL_law_239 : decode cL_law 239 = .ok (.goto 103, 3) := by decide +kernel
theorem dL_law_242 : decode cL_law 242 = .ok (.iload 9, 2) := by decide +kernel
theorem dL_law_244 : decode cL_law 244 = .ok (.bipush 12, 2) := by decide +kernel
theorem dL_law_246 : decode cL_law 246 = .ok (.if_icmp .ge 34, 3) := by decide +kernel
theorem dL_law_249 : decode cL_law 249 = .ok (.aload_n 1, 1) := by decide +kernel
theorem dL_law_250 : decode cL_law 250 = .ok (.iconst 3, 1) := by decide +kernel
theorem dL_law_251 : decode cL_law 251 = .ok (.invokevirtual 13, 3) := by decide +kernel
theorem dL_law_254 : decode cL_law 254 = .ok (.ifCond .eq 16, 3) := by decide +kernel
theorem dL_law_257 : decode cL_law 257 = .ok (.aload_n 1, 1) := by decide +kernel
theorem dL_law_258 : decode cL_law 258 = .ok (.iload 9, 2) := by decide +kernel
theorem dL_law_260 : decode cL_law 260 = .ok (.iload 7, 2) := by decide +kernel
theorem dL_law_262 : decode cL_law 262 = .ok (.iload 8, 2) := by decide +kernel
theorem dL_law_264 : decode cL_law 264 = .ok (.invokestatic 171, 3) := by decide +kernel
theorem dL_law_267 : decode cL_law 267 = .ok (.ifCond .eq 7, 3) := by decide +kernel
theorem dL_law_270 : decode cL_law 270 = .ok (.iconst 1, 1) := by decide +kernel
theorem dL_law_271 : decode cL_law 271 = .ok (.goto 4, 3) := by decide +kernel
theorem dL_law_274 : decode cL_law 274 = .ok (.iconst 0, 1) := by decide +kernel
theorem dL_law_275 : decode cL_law 275 = .ok (.istore 13, 2) := by decide +kernel
theorem dL_law_277 : decode cL_law 277 = .ok (.goto 65, 3) := by decide +kernel
theorem dL_law_280 : decode cL_law 280 = .ok (.iload 9, 2) := by decide +kernel
theorem dL_law_282 : decode cL_law 282 = .ok (.bipush 15, 2) := by decide +kernel
theorem dL_law_284 : decode cL_law 284 = .ok (.if_icmp .ge 34, 3) := by decide +kernel
theorem dL_law_287 : decode cL_law 287 = .ok (.aload_n 1, 1) := by decide +kernel
theorem dL_law_288 : decode cL_law 288 = .ok (.iconst 3, 1) := by decide +kernel
theorem dL_law_289 : decode cL_law 289 = .ok (.invokevirtual 13, 3) := by decide +kernel
theorem dL_law_292 : decode cL_law 292 = .ok (.ifCond .eq 16, 3) := by decide +kernel
theorem dL_law_295 : decode cL_law 295 = .ok (.aload_n 1, 1) := by decide +kernel
theorem dL_law_296 : decode cL_law 296 = .ok (.iload 9, 2) := by decide +kernel
theorem dL_law_298 : decode cL_law 298 = .ok (.iload 7, 2) := by decide +kernel
theorem dL_law_300 : decode cL_law 300 = .ok (.iload 8, 2) := by decide +kernel
theorem dL_law_302 : decode cL_law 302 = .ok (.invokestatic 174, 3) := by decide +kernel
theorem dL_law_305 : decode cL_law 305 = .ok (.ifCond .eq 7, 3) := by decide +kernel
theorem dL_law_308 : decode cL_law 308 = .ok (.iconst 1, 1) := by decide +kernel
theorem dL_law_309 : decode cL_law 309 = .ok (.goto 4, 3) := by decide +kernel
theorem dL_law_312 : decode cL_law 312 = .ok (.iconst 0, 1) := by decide +kernel
theorem dL_law_313 : decode cL_law 313 = .ok (.istore 13, 2) := by decide +kernel
theorem dL_law_315 : decode cL_law 315 = .ok (.goto 27, 3) := by decide +kernel
theorem dL_law_318 : decode cL_law 318 = .ok (.aload_n 1, 1) := by decide +kernel
theorem dL_law_319 : decode cL_law 319 = .ok (.iconst 1, 1) := by decide +kernel
theorem dL_law_320 : decode cL_law 320 = .ok (.iload 8, 2) := by decide +kernel
theorem dL_law_322 : decode cL_law 322 = .ok (.iconst 4, 1) := by decide +kernel
theorem dL_law_323 : decode cL_law 323 = .ok (.invokestatic 65, 3) := by decide +kernel
theorem dL_law_326 : decode cL_law 326 = .ok (.iadd, 1) := by decide +kernel
theorem dL_law_327 : decode cL_law 327 = .ok (.iconst 1, 1) := by decide +kernel
theorem dL_law_328 : decode cL_law 328 = .ok (.iload 8, 2) := by decide +kernel
theorem dL_law_330 : decode cL_law 330 = .ok (.iconst 4, 1) := by decide +kernel
theorem dL_law_331 : decode cL_law 331 = .ok (.ishr, 1) := by decide +kernel
theorem dL_law_332 : decode cL_law 332 = .ok (.iconst 4, 1) := by decide +kernel
theorem dL_law_333 : decode cL_law 333 = .ok (.invokestatic 65, 3) := by decide +kernel
theorem dL_law_336 : decode cL_law 336 = .ok (.iadd, 1) := by decide +kernel
theorem dL_law_337 : decode cL_law 337 = .ok (.invokestatic 177, 3) := by decide +kernel
theorem dL_law_340 : decode cL_law 340 = .ok (.istore 13, 2) := by decide +kernel
theorem dL_law_342 : decode cL_law 342 = .ok (.iload 10, 2) := by decide +kernel
theorem dL_law_344 : decode cL_law 344 = .ok (.iconst 5, 1) := by decide +kernel
theorem dL_law_345 : decode cL_law 345 = .ok (.if_icmp .ne 7, 3) := by decide +kernel
theorem dL_law_348 : decode cL_law 348 = .ok (.iconst 4, 1) := by decide +kernel
theorem dL_law_349 : decode cL_law 349 = .ok (.goto 5, 3) := by decide +kernel
theorem dL_law_352 : decode cL_law 352 = .ok (.iload 10, 2) := by decide +kernel
theorem dL_law_354 : decode cL_law 354 = .ok (.istore 14, 2) := by decide +kernel
theorem dL_law_356 : decode cL_law 356 = .ok (.iload 13, 2) := by decide +kernel
theorem dL_law_358 : decode cL_law 358 = .ok (.ifCond .eq 78, 3) := by decide +kernel
theorem dL_law_361 : decode cL_law 361 = .ok (.iload 6, 2) := by decide +kernel
theorem dL_law_363 : decode cL_law 363 = .ok (.iconst 4, 1) := by decide +kernel
theorem dL_law_364 : decode cL_law 364 = .ok (.if_icmp .le 72, 3) := by decide +kernel
theorem dL_law_367 : decode cL_law 367 = .ok (.iload 9, 2) := by decide +kernel
theorem dL_law_369 : decode cL_law 369 = .ok (.bipush 15, 2) := by decide +kernel
theorem dL_law_371 : decode cL_law 371 = .ok (.if_icmp .ge 65, 3) := by decide +kernel
theorem dL_law_374 : decode cL_law 374 = .ok (.iload 8, 2) := by decide +kernel
theorem dL_law_376 : decode cL_law 376 = .ok (.sipush 3072, 3) := by decide +kernel
theorem dL_law_379 : decode cL_law 379 = .ok (.iand, 1) := by decide +kernel
theorem dL_law_380 : decode cL_law 380 = .ok (.ifCond .ne 56, 3) := by decide +kernel
theorem dL_law_383 : decode cL_law 383 = .ok (.aload_n 1, 1) := by decide +kernel
theorem dL_law_384 : decode cL_law 384 = .ok (.bipush 11, 2) := by decide +kernel
theorem dL_law_386 : decode cL_law 386 = .ok (.invokevirtual 13, 3) := by decide +kernel
theorem dL_law_389 : decode cL_law 389 = .ok (.iload 10, 2) := by decide +kernel
theorem dL_law_391 : decode cL_law 391 = .ok (.if_icmp .ne 19, 3) := by decide +kernel
theorem dL_law_394 : decode cL_law 394 = .ok (.iload 10, 2) := by decide +kernel
theorem dL_law_396 : decode cL_law 396 = .ok (.iconst 5, 1) := by decide +kernel
theorem dL_law_397 : decode cL_law 397 = .ok (.if_icmp .ne 39, 3) := by decide +kernel
theorem dL_law_400 : decode cL_law 400 = .ok (.aload_n 1, 1) := by decide +kernel
theorem dL_law_401 : decode cL_law 401 = .ok (.invokestatic 146, 3) := by decide +kernel
theorem dL_law_404 : decode cL_law 404 = .ok (.lload 11, 2) := by decide +kernel
theorem dL_law_406 : decode cL_law 406 = .ok (.lcmp, 1) := by decide +kernel
theorem dL_law_407 : decode cL_law 407 = .ok (.ifCond .eq 29, 3) := by decide +kernel
theorem dL_law_410 : decode cL_law 410 = .ok (.aload_n 1, 1) := by decide +kernel
theorem dL_law_411 : decode cL_law 411 = .ok (.invokevirtual 154, 3) := by decide +kernel
theorem dL_law_414 : decode cL_law 414 = .ok (.iload 14, 2) := by decide +kernel
theorem dL_law_416 : decode cL_law 416 = .ok (.if_icmp .ne 17, 3) := by decide +kernel
theorem dL_law_419 : decode cL_law 419 = .ok (.aload_n 1, 1) := by decide +kernel
theorem dL_law_420 : decode cL_law 420 = .ok (.invokestatic 146, 3) := by decide +kernel
theorem dL_law_423 : decode cL_law 423 = .ok (.lload 11, 2) := by decide +kernel
theorem dL_law_425 : decode cL_law 425 = .ok (.lcmp, 1) := by decide +kernel
theorem dL_law_426 : decode cL_law 426 = .ok (.ifCond .ne 7, 3) := by decide +kernel
theorem dL_law_429 : decode cL_law 429 = .ok (.iconst 1, 1) := by decide +kernel
theorem dL_law_430 : decode cL_law 430 = .ok (.goto 4, 3) := by decide +kernel
theorem dL_law_433 : decode cL_law 433 = .ok (.iconst 0, 1) := by decide +kernel
theorem dL_law_434 : decode cL_law 434 = .ok (.istore 13, 2) := by decide +kernel
theorem dL_law_436 : decode cL_law 436 = .ok (.iload 13, 2) := by decide +kernel
theorem dL_law_438 : decode cL_law 438 = .ok (.ifCond .eq 10, 3) := by decide +kernel
theorem dL_law_441 : decode cL_law 441 = .ok (.aload_n 1, 1) := by decide +kernel
theorem dL_law_442 : decode cL_law 442 = .ok (.invokestatic 181, 3) := by decide +kernel
theorem dL_law_445 : decode cL_law 445 = .ok (.ifCond .ne 5, 3) := by decide +kernel
theorem dL_law_448 : decode cL_law 448 = .ok (.iconst 0, 1) := by decide +kernel
theorem dL_law_449 : decode cL_law 449 = .ok (.ireturn, 1) := by decide +kernel
theorem dL_law_450 : decode cL_law 450 = .ok (.iconst 0, 1) := by decide +kernel
theorem dL_law_451 : decode cL_law 451 = .ok (.istore 15, 2) := by decide +kernel
theorem dL_law_453 : decode cL_law 453 = .ok (.iload 15, 2) := by decide +kernel
theorem dL_law_455 : decode cL_law 455 = .ok (.aload_n 1, 1) := by decide +kernel
theorem dL_law_456 : decode cL_law 456 = .ok (.iconst 3, 1) := by decide +kernel
theorem dL_law_457 : decode cL_law 457 = .ok (.invokevirtual 13, 3) := by decide +kernel
theorem dL_law_460 : decode cL_law 460 = .ok (.if_icmp .ge 20, 3) := by decide +kernel
theorem dL_law_463 : decode cL_law 463 = .ok (.aload_n 1, 1) := by decide +kernel
theorem dL_law_464 : decode cL_law 464 = .ok (.iload 15, 2) := by decide +kernel
theorem dL_law_466 : decode cL_law 466 = .ok (.invokestatic 185, 3) := by decide +kernel
theorem dL_law_469 : decode cL_law 469 = .ok (.ifCond .ne 5, 3) := by decide +kernel
theorem dL_law_472 : decode cL_law 472 = .ok (.iconst 0, 1) := by decide +kernel
theorem dL_law_473 : decode cL_law 473 = .ok (.ireturn, 1) := by decide +kernel
theorem dL_law_474 : decode cL_law 474 = .ok (.iinc 15 1, 3) := by decide +kernel
theorem dL_law_477 : decode cL_law 477 = .ok (.goto (-24), 3) := by decide +kernel
theorem dL_law_480 : decode cL_law 480 = .ok (.iinc 6 1, 3) := by decide +kernel
theorem dL_law_483 : decode cL_law 483 = .ok (.goto (-388), 3) := by decide +kernel
theorem dL_law_486 : decode cL_law 486 = .ok (.iconst 1, 1) := by decide +kernel
theorem dL_law_487 : decode cL_law 487 = .ok (.ireturn, 1) := by decide +kernel
