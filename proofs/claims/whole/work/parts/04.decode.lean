theorem dX0_init_0 : decode cX0_init 0 = .ok (.aload_n 0, 1) := by decide +kernel
theorem dX0_init_1 : decode cX0_init 1 = .ok (.invokespecial 1, 3) := by decide +kernel
theorem dX0_init_4 : decode cX0_init 4 = .ok (.return_, 1) := by decide +kernel
theorem dX0_begin_0 : decode cX0_begin 0 = .ok (.aload_n 0, 1) := by decide +kernel
theorem dX0_begin_1 : decode cX0_begin 1 = .ok (.iload_n 1, 1) := by decide +kernel
theorem dX0_begin_2 : decode cX0_begin 2 = .ok (.iload_n 2, 1) := by decide +kernel
theorem dX0_begin_3 : decode cX0_begin 3 = .ok (.invokevirtual 7, 3) := by decide +kernel
theorem dX0_begin_6 : decode cX0_begin 6 = .ok (.aload_n 0, 1) := by decide +kernel
theorem dX0_begin_7 : decode cX0_begin 7 = .ok (.iconst 0, 1) := by decide +kernel
theorem dX0_begin_8 : decode cX0_begin 8 = .ok (.putfield 13, 3) := by decide +kernel
theorem dX0_begin_11 : decode cX0_begin 11 = .ok (.aload_n 0, 1) := by decide +kernel
theorem dX0_begin_12 : decode cX0_begin 12 = .ok (.iconst 0, 1) := by decide +kernel
theorem dX0_begin_13 : decode cX0_begin 13 = .ok (.putfield 17, 3) := by decide +kernel
theorem dX0_begin_16 : decode cX0_begin 16 = .ok (.return_, 1) := by decide +kernel
theorem dX0_copyFrom_0 : decode cX0_copyFrom 0 = .ok (.aload_n 0, 1) := by decide +kernel
theorem dX0_copyFrom_1 : decode cX0_copyFrom 1 = .ok (.aload_n 1, 1) := by decide +kernel
theorem dX0_copyFrom_2 : decode cX0_copyFrom 2 = .ok (.getfield 20, 3) := by decide +kernel
theorem dX0_copyFrom_5 : decode cX0_copyFrom 5 = .ok (.aload_n 1, 1) := by decide +kernel
theorem dX0_copyFrom_6 : decode cX0_copyFrom 6 = .ok (.getfield 23, 3) := by decide +kernel
theorem dX0_copyFrom_9 : decode cX0_copyFrom 9 = .ok (.invokevirtual 7, 3) := by decide +kernel
theorem dX0_copyFrom_12 : decode cX0_copyFrom 12 = .ok (.aload_n 0, 1) := by decide +kernel
theorem dX0_copyFrom_13 : decode cX0_copyFrom 13 = .ok (.aload_n 1, 1) := by decide +kernel
theorem dX0_copyFrom_14 : decode cX0_copyFrom 14 = .ok (.getfield 13, 3) := by decide +kernel
theorem dX0_copyFrom_17 : decode cX0_copyFrom 17 = .ok (.putfield 13, 3) := by decide +kernel
theorem dX0_copyFrom_20 : decode cX0_copyFrom 20 = .ok (.aload_n 0, 1) := by decide +kernel
theorem dX0_copyFrom_21 : decode cX0_copyFrom 21 = .ok (.aload_n 1, 1) := by decide +kernel
theorem dX0_copyFrom_22 : decode cX0_copyFrom 22 = .ok (.getfield 17, 3) := by decide +kernel
theorem dX0_copyFrom_25 : decode cX0_copyFrom 25 = .ok (.putfield 17, 3) := by decide +kernel
theorem dX0_copyFrom_28 : decode cX0_copyFrom 28 = .ok (.return_, 1) := by decide +kernel
theorem dX0_haveLed_0 : decode cX0_haveLed 0 = .ok (.aload_n 0, 1) := by decide +kernel
theorem dX0_haveLed_1 : decode cX0_haveLed 1 = .ok (.dup, 1) := by decide +kernel
theorem dX0_haveLed_2 : decode cX0_haveLed 2 = .ok (.getfield 13, 3) := by decide +kernel
theorem dX0_haveLed_5 : decode cX0_haveLed 5 = .ok (.iconst 1, 1) := by decide +kernel
theorem dX0_haveLed_6 : decode cX0_haveLed 6 = .ok (.iadd, 1) := by decide +kernel
theorem dX0_haveLed_7 : decode cX0_haveLed 7 = .ok (.putfield 13, 3) := by decide +kernel
theorem dX0_haveLed_10 : decode cX0_haveLed 10 = .ok (.aload_n 0, 1) := by decide +kernel
theorem dX0_haveLed_11 : decode cX0_haveLed 11 = .ok (.dup, 1) := by decide +kernel
theorem dX0_haveLed_12 : decode cX0_haveLed 12 = .ok (.getfield 17, 3) := by decide +kernel
theorem dX0_haveLed_15 : decode cX0_haveLed 15 = .ok (.iload_n 1, 1) := by decide +kernel
theorem dX0_haveLed_16 : decode cX0_haveLed 16 = .ok (.iadd, 1) := by decide +kernel
theorem dX0_haveLed_17 : decode cX0_haveLed 17 = .ok (.putfield 17, 3) := by decide +kernel
theorem dX0_haveLed_20 : decode cX0_haveLed 20 = .ok (.return_, 1) := by decide +kernel
theorem dX0_certify_0 : decode cX0_certify 0 = .ok (.aload_n 0, 1) := by decide +kernel
theorem dX0_certify_1 : decode cX0_certify 1 = .ok (.iload_n 1, 1) := by decide +kernel
theorem dX0_certify_2 : decode cX0_certify 2 = .ok (.putfield 20, 3) := by decide +kernel
theorem dX0_certify_5 : decode cX0_certify 5 = .ok (.aload_n 0, 1) := by decide +kernel
theorem dX0_certify_6 : decode cX0_certify 6 = .ok (.iload_n 2, 1) := by decide +kernel
theorem dX0_certify_7 : decode cX0_certify 7 = .ok (.putfield 23, 3) := by decide +kernel
theorem dX0_certify_10 : decode cX0_certify 10 = .ok (.return_, 1) := by decide +kernel
theorem dX0_isValidOn_0 : decode cX0_isValidOn 0 = .ok (.iload_n 1, 1) := by decide +kernel
theorem dX0_isValidOn_1 : decode cX0_isValidOn 1 = .ok (.aload_n 0, 1) := by decide +kernel
theorem dX0_isValidOn_2 : decode cX0_isValidOn 2 = .ok (.getfield 23, 3) := by decide +kernel
theorem dX0_isValidOn_5 : decode cX0_isValidOn 5 = .ok (.if_icmp .gt 7, 3) := by decide +kernel
theorem dX0_isValidOn_8 : decode cX0_isValidOn 8 = .ok (.iconst 1, 1) := by decide +kernel
theorem dX0_isValidOn_9 : decode cX0_isValidOn 9 = .ok (.goto 4, 3) := by decide +kernel
theorem dX0_isValidOn_12 : decode cX0_isValidOn 12 = .ok (.iconst 0, 1) := by decide +kernel
theorem dX0_isValidOn_13 : decode cX0_isValidOn 13 = .ok (.ireturn, 1) := by decide +kernel
theorem dX1_init_0 : decode cX1_init 0 = .ok (.aload_n 0, 1) := by decide +kernel
theorem dX1_init_1 : decode cX1_init 1 = .ok (.invokespecial 3, 3) := by decide +kernel
theorem dX1_init_4 : decode cX1_init 4 = .ok (.aload_n 0, 1) := by decide +kernel
theorem dX1_init_5 : decode cX1_init 5 = .ok (.iconst 5, 1) := by decide +kernel
theorem dX1_init_6 : decode cX1_init 6 = .ok (.anewarray 9, 3) := by decide +kernel
theorem dX1_init_9 : decode cX1_init 9 = .ok (.putfield 11, 3) := by decide +kernel
theorem dX1_init_12 : decode cX1_init 12 = .ok (.iconst 0, 1) := by decide +kernel
theorem dX1_init_13 : decode cX1_init 13 = .ok (.istore_n 1, 1) := by decide +kernel
theorem dX1_init_14 : decode cX1_init 14 = .ok (.iload_n 1, 1) := by decide +kernel
theorem dX1_init_15 : decode cX1_init 15 = .ok (.iconst 5, 1) := by decide +kernel
theorem dX1_init_16 : decode cX1_init 16 = .ok (.if_icmp .ge 22, 3) := by decide +kernel
theorem dX1_init_19 : decode cX1_init 19 = .ok (.aload_n 0, 1) := by decide +kernel
theorem dX1_init_20 : decode cX1_init 20 = .ok (.getfield 11, 3) := by decide +kernel
theorem dX1_init_23 : decode cX1_init 23 = .ok (.iload_n 1, 1) := by decide +kernel
theorem dX1_init_24 : decode cX1_init 24 = .ok (.new 9, 3) := by decide +kernel
theorem dX1_init_27 : decode cX1_init 27 = .ok (.dup, 1) := by decide +kernel
theorem dX1_init_28 : decode cX1_init 28 = .ok (.invokespecial 17, 3) := by decide +kernel
theorem dX1_init_31 : decode cX1_init 31 = .ok (.aastore, 1) := by decide +kernel
theorem dX1_init_32 : decode cX1_init 32 = .ok (.iinc 1 1, 3) := by decide +kernel
theorem dX1_init_35 : decode cX1_init 35 = .ok (.goto (-21), 3) := by decide +kernel
theorem dX1_init_38 : decode cX1_init 38 = .ok (.return_, 1) := by decide +kernel
theorem dX1_record_0 : decode cX1_record 0 = .ok (.aload_n 0, 1) := by decide +kernel
theorem dX1_record_1 : decode cX1_record 1 = .ok (.getfield 18, 3) := by decide +kernel
theorem dX1_record_4 : decode cX1_record 4 = .ok (.iconst 5, 1) := by decide +kernel
theorem dX1_record_5 : decode cX1_record 5 = .ok (.if_icmp .ne 25, 3) := by decide +kernel
theorem dX1_record_8 : decode cX1_record 8 = .ok (.aload_n 0, 1) := by decide +kernel
theorem dX1_record_9 : decode cX1_record 9 = .ok (.aload_n 0, 1) := by decide +kernel
theorem dX1_record_10 : decode cX1_record 10 = .ok (.getfield 22, 3) := by decide +kernel
theorem dX1_record_13 : decode cX1_record 13 = .ok (.iconst 1, 1) := by decide +kernel
theorem dX1_record_14 : decode cX1_record 14 = .ok (.iadd, 1) := by decide +kernel
theorem dX1_record_15 : decode cX1_record 15 = .ok (.iconst 5, 1) := by decide +kernel
theorem dX1_record_16 : decode cX1_record 16 = .ok (.irem, 1) := by decide +kernel
theorem dX1_record_17 : decode cX1_record 17 = .ok (.putfield 22, 3) := by decide +kernel
theorem dX1_record_20 : decode cX1_record 20 = .ok (.aload_n 0, 1) := by decide +kernel
theorem dX1_record_21 : decode cX1_record 21 = .ok (.dup, 1) := by decide +kernel
theorem dX1_record_22 : decode cX1_record 22 = .ok (.getfield 18, 3) := by decide +kernel
theorem dX1_record_25 : decode cX1_record 25 = .ok (.iconst 1, 1) := by decide +kernel
theorem dX1_record_26 : decode cX1_record 26 = .ok (.isub, 1) := by decide +kernel
theorem dX1_record_27 : decode cX1_record 27 = .ok (.putfield 18, 3) := by decide +kernel
theorem dX1_record_30 : decode cX1_record 30 = .ok (.aload_n 0, 1) := by decide +kernel
theorem dX1_record_31 : decode cX1_record 31 = .ok (.getfield 11, 3) := by decide +kernel
theorem dX1_record_34 : decode cX1_record 34 = .ok (.aload_n 0, 1) := by decide +kernel
theorem dX1_record_35 : decode cX1_record 35 = .ok (.getfield 22, 3) := by decide +kernel
theorem dX1_record_38 : decode cX1_record 38 = .ok (.aload_n 0, 1) := by decide +kernel
theorem dX1_record_39 : decode cX1_record 39 = .ok (.getfield 18, 3) := by decide +kernel
theorem dX1_record_42 : decode cX1_record 42 = .ok (.iadd, 1) := by decide +kernel
theorem dX1_record_43 : decode cX1_record 43 = .ok (.iconst 5, 1) := by decide +kernel
theorem dX1_record_44 : decode cX1_record 44 = .ok (.irem, 1) := by decide +kernel
theorem dX1_record_45 : decode cX1_record 45 = .ok (.aaload, 1) := by decide +kernel
theorem dX1_record_46 : decode cX1_record 46 = .ok (.aload_n 1, 1) := by decide +kernel
theorem dX1_record_47 : decode cX1_record 47 = .ok (.invokevirtual 25, 3) := by decide +kernel
theorem dX1_record_50 : decode cX1_record 50 = .ok (.aload_n 0, 1) := by decide +kernel
theorem dX1_record_51 : decode cX1_record 51 = .ok (.dup, 1) := by decide +kernel
theorem dX1_record_52 : decode cX1_record 52 = .ok (.getfield 18, 3) := by decide +kernel
theorem dX1_record_55 : decode cX1_record 55 = .ok (.iconst 1, 1) := by decide +kernel
theorem dX1_record_56 : decode cX1_record 56 = .ok (.iadd, 1) := by decide +kernel
theorem dX1_record_57 : decode cX1_record 57 = .ok (.putfield 18, 3) := by decide +kernel
theorem dX1_record_60 : decode cX1_record 60 = .ok (.return_, 1) := by decide +kernel
theorem dX1_takeBack_0 : decode cX1_takeBack 0 = .ok (.aload_n 0, 1) := by decide +kernel
theorem dX1_takeBack_1 : decode cX1_takeBack 1 = .ok (.getfield 18, 3) := by decide +kernel
theorem dX1_takeBack_4 : decode cX1_takeBack 4 = .ok (.ifCond .le 33, 3) := by decide +kernel
theorem dX1_takeBack_7 : decode cX1_takeBack 7 = .ok (.aload_n 0, 1) := by decide +kernel
theorem dX1_takeBack_8 : decode cX1_takeBack 8 = .ok (.dup, 1) := by decide +kernel
theorem dX1_takeBack_9 : decode cX1_takeBack 9 = .ok (.getfield 18, 3) := by decide +kernel
theorem dX1_takeBack_12 : decode cX1_takeBack 12 = .ok (.iconst 1, 1) := by decide +kernel
theorem dX1_takeBack_13 : decode cX1_takeBack 13 = .ok (.isub, 1) := by decide +kernel
theorem dX1_takeBack_14 : decode cX1_takeBack 14 = .ok (.putfield 18, 3) := by decide +kernel
theorem dX1_takeBack_17 : decode cX1_takeBack 17 = .ok (.aload_n 1, 1) := by decide +kernel
theorem dX1_takeBack_18 : decode cX1_takeBack 18 = .ok (.aload_n 0, 1) := by decide +kernel
theorem dX1_takeBack_19 : decode cX1_takeBack 19 = .ok (.getfield 11, 3) := by decide +kernel
theorem dX1_takeBack_22 : decode cX1_takeBack 22 = .ok (.aload_n 0, 1) := by decide +kernel
theorem dX1_takeBack_23 : decode cX1_takeBack 23 = .ok (.getfield 22, 3) := by decide +kernel
theorem dX1_takeBack_26 : decode cX1_takeBack 26 = .ok (.aload_n 0, 1) := by decide +kernel
theorem dX1_takeBack_27 : decode cX1_takeBack 27 = .ok (.getfield 18, 3) := by decide +kernel
theorem dX1_takeBack_30 : decode cX1_takeBack 30 = .ok (.iadd, 1) := by decide +kernel
theorem dX1_takeBack_31 : decode cX1_takeBack 31 = .ok (.iconst 5, 1) := by decide +kernel
theorem dX1_takeBack_32 : decode cX1_takeBack 32 = .ok (.irem, 1) := by decide +kernel
theorem dX1_takeBack_33 : decode cX1_takeBack 33 = .ok (.aaload, 1) := by decide +kernel
theorem dX1_takeBack_34 : decode cX1_takeBack 34 = .ok (.invokevirtual 25, 3) := by decide +kernel
theorem dX1_takeBack_37 : decode cX1_takeBack 37 = .ok (.return_, 1) := by decide +kernel
theorem dX2_init_0 : decode cX2_init 0 = .ok (.aload_n 0, 1) := by decide +kernel
theorem dX2_init_1 : decode cX2_init 1 = .ok (.invokespecial 3, 3) := by decide +kernel
theorem dX2_init_4 : decode cX2_init 4 = .ok (.aload_n 0, 1) := by decide +kernel
theorem dX2_init_5 : decode cX2_init 5 = .ok (.bipush 8, 2) := by decide +kernel
theorem dX2_init_7 : decode cX2_init 7 = .ok (.anewarray 9, 3) := by decide +kernel
theorem dX2_init_10 : decode cX2_init 10 = .ok (.putfield 11, 3) := by decide +kernel
theorem dX2_init_13 : decode cX2_init 13 = .ok (.iconst 0, 1) := by decide +kernel
theorem dX2_init_14 : decode cX2_init 14 = .ok (.istore_n 1, 1) := by decide +kernel
theorem dX2_init_15 : decode cX2_init 15 = .ok (.iload_n 1, 1) := by decide +kernel
theorem dX2_init_16 : decode cX2_init 16 = .ok (.bipush 8, 2) := by decide +kernel
theorem dX2_init_18 : decode cX2_init 18 = .ok (.if_icmp .ge 22, 3) := by decide +kernel
theorem dX2_init_21 : decode cX2_init 21 = .ok (.aload_n 0, 1) := by decide +kernel
theorem dX2_init_22 : decode cX2_init 22 = .ok (.getfield 11, 3) := by decide +kernel
theorem dX2_init_25 : decode cX2_init 25 = .ok (.iload_n 1, 1) := by decide +kernel
theorem dX2_init_26 : decode cX2_init 26 = .ok (.new 9, 3) := by decide +kernel
theorem dX2_init_29 : decode cX2_init 29 = .ok (.dup, 1) := by decide +kernel
theorem dX2_init_30 : decode cX2_init 30 = .ok (.invokespecial 17, 3) := by decide +kernel
theorem dX2_init_33 : decode cX2_init 33 = .ok (.aastore, 1) := by decide +kernel
theorem dX2_init_34 : decode cX2_init 34 = .ok (.iinc 1 1, 3) := by decide +kernel
theorem dX2_init_37 : decode cX2_init 37 = .ok (.goto (-22), 3) := by decide +kernel
theorem dX2_init_40 : decode cX2_init 40 = .ok (.aload_n 0, 1) := by decide +kernel
theorem dX2_init_41 : decode cX2_init 41 = .ok (.bipush 6, 2) := by decide +kernel
theorem dX2_init_43 : decode cX2_init 43 = .ok (.newarray .double, 2) := by decide +kernel
theorem dX2_init_45 : decode cX2_init 45 = .ok (.putfield 18, 3) := by decide +kernel
theorem dX2_init_48 : decode cX2_init 48 = .ok (.aload_n 0, 1) := by decide +kernel
theorem dX2_init_49 : decode cX2_init 49 = .ok (.bipush 10, 2) := by decide +kernel
theorem dX2_init_51 : decode cX2_init 51 = .ok (.anewarray 22, 3) := by decide +kernel
theorem dX2_init_54 : decode cX2_init 54 = .ok (.putfield 24, 3) := by decide +kernel
theorem dX2_init_57 : decode cX2_init 57 = .ok (.iconst 0, 1) := by decide +kernel
theorem dX2_init_58 : decode cX2_init 58 = .ok (.istore_n 1, 1) := by decide +kernel
theorem dX2_init_59 : decode cX2_init 59 = .ok (.iload_n 1, 1) := by decide +kernel
theorem dX2_init_60 : decode cX2_init 60 = .ok (.bipush 10, 2) := by decide +kernel
theorem dX2_init_62 : decode cX2_init 62 = .ok (.if_icmp .ge 22, 3) := by decide +kernel
theorem dX2_init_65 : decode cX2_init 65 = .ok (.aload_n 0, 1) := by decide +kernel
theorem dX2_init_66 : decode cX2_init 66 = .ok (.getfield 24, 3) := by decide +kernel
theorem dX2_init_69 : decode cX2_init 69 = .ok (.iload_n 1, 1) := by decide +kernel
theorem dX2_init_70 : decode cX2_init 70 = .ok (.new 22, 3) := by decide +kernel
theorem dX2_init_73 : decode cX2_init 73 = .ok (.dup, 1) := by decide +kernel
theorem dX2_init_74 : decode cX2_init 74 = .ok (.invokespecial 28, 3) := by decide +kernel
theorem dX2_init_77 : decode cX2_init 77 = .ok (.aastore, 1) := by decide +kernel
theorem dX2_init_78 : decode cX2_init 78 = .ok (.iinc 1 1, 3) := by decide +kernel
theorem dX2_init_81 : decode cX2_init 81 = .ok (.goto (-22), 3) := by decide +kernel
theorem dX2_init_84 : decode cX2_init 84 = .ok (.return_, 1) := by decide +kernel
theorem dX2_copyFrom_0 : decode cX2_copyFrom 0 = .ok (.iconst 0, 1) := by decide +kernel
theorem dX2_copyFrom_1 : decode cX2_copyFrom 1 = .ok (.istore_n 2, 1) := by decide +kernel
theorem dX2_copyFrom_2 : decode cX2_copyFrom 2 = .ok (.iload_n 2, 1) := by decide +kernel
theorem dX2_copyFrom_3 : decode cX2_copyFrom 3 = .ok (.aload_n 1, 1) := by decide +kernel
theorem dX2_copyFrom_4 : decode cX2_copyFrom 4 = .ok (.getfield 29, 3) := by decide +kernel
theorem dX2_copyFrom_7 : decode cX2_copyFrom 7 = .ok (.if_icmp .ge 24, 3) := by decide +kernel
theorem dX2_copyFrom_10 : decode cX2_copyFrom 10 = .ok (.aload_n 0, 1) := by decide +kernel
theorem dX2_copyFrom_11 : decode cX2_copyFrom 11 = .ok (.getfield 11, 3) := by decide +kernel
theorem dX2_copyFrom_14 : decode cX2_copyFrom 14 = .ok (.iload_n 2, 1) := by decide +kernel
theorem dX2_copyFrom_15 : decode cX2_copyFrom 15 = .ok (.aaload, 1) := by decide +kernel
theorem dX2_copyFrom_16 : decode cX2_copyFrom 16 = .ok (.aload_n 1, 1) := by decide +kernel
theorem dX2_copyFrom_17 : decode cX2_copyFrom 17 = .ok (.getfield 11, 3) := by decide +kernel
theorem dX2_copyFrom_20 : decode cX2_copyFrom 20 = .ok (.iload_n 2, 1) := by decide +kernel
theorem dX2_copyFrom_21 : decode cX2_copyFrom 21 = .ok (.aaload, 1) := by decide +kernel
theorem dX2_copyFrom_22 : decode cX2_copyFrom 22 = .ok (.invokevirtual 33, 3) := by decide +kernel
theorem dX2_copyFrom_25 : decode cX2_copyFrom 25 = .ok (.iinc 2 1, 3) := by decide +kernel
theorem dX2_copyFrom_28 : decode cX2_copyFrom 28 = .ok (.goto (-26), 3) := by decide +kernel
theorem dX2_copyFrom_31 : decode cX2_copyFrom 31 = .ok (.aload_n 1, 1) := by decide +kernel
theorem dX2_copyFrom_32 : decode cX2_copyFrom 32 = .ok (.getfield 18, 3) := by decide +kernel
theorem dX2_copyFrom_35 : decode cX2_copyFrom 35 = .ok (.iconst 0, 1) := by decide +kernel
theorem dX2_copyFrom_36 : decode cX2_copyFrom 36 = .ok (.aload_n 0, 1) := by decide +kernel
theorem dX2_copyFrom_37 : decode cX2_copyFrom 37 = .ok (.getfield 18, 3) := by decide +kernel
theorem dX2_copyFrom_40 : decode cX2_copyFrom 40 = .ok (.iconst 0, 1) := by decide +kernel
theorem dX2_copyFrom_41 : decode cX2_copyFrom 41 = .ok (.bipush 6, 2) := by decide +kernel
theorem dX2_copyFrom_43 : decode cX2_copyFrom 43 = .ok (.invokestatic 37, 3) := by decide +kernel
theorem dX2_copyFrom_46 : decode cX2_copyFrom 46 = .ok (.iconst 0, 1) := by decide +kernel
theorem dX2_copyFrom_47 : decode cX2_copyFrom 47 = .ok (.istore_n 2, 1) := by decide +kernel
theorem dX2_copyFrom_48 : decode cX2_copyFrom 48 = .ok (.iload_n 2, 1) := by decide +kernel
theorem dX2_copyFrom_49 : decode cX2_copyFrom 49 = .ok (.aload_n 1, 1) := by decide +kernel
theorem dX2_copyFrom_50 : decode cX2_copyFrom 50 = .ok (.getfield 43, 3) := by decide +kernel
theorem dX2_copyFrom_53 : decode cX2_copyFrom 53 = .ok (.if_icmp .ge 24, 3) := by decide +kernel
theorem dX2_copyFrom_56 : decode cX2_copyFrom 56 = .ok (.aload_n 0, 1) := by decide +kernel
theorem dX2_copyFrom_57 : decode cX2_copyFrom 57 = .ok (.getfield 24, 3) := by decide +kernel
theorem dX2_copyFrom_60 : decode cX2_copyFrom 60 = .ok (.iload_n 2, 1) := by decide +kernel
theorem dX2_copyFrom_61 : decode cX2_copyFrom 61 = .ok (.aaload, 1) := by decide +kernel
theorem dX2_copyFrom_62 : decode cX2_copyFrom 62 = .ok (.aload_n 1, 1) := by decide +kernel
theorem dX2_copyFrom_63 : decode cX2_copyFrom 63 = .ok (.getfield 24, 3) := by decide +kernel
theorem dX2_copyFrom_66 : decode cX2_copyFrom 66 = .ok (.iload_n 2, 1) := by decide +kernel
theorem dX2_copyFrom_67 : decode cX2_copyFrom 67 = .ok (.aaload, 1) := by decide +kernel
theorem dX2_copyFrom_68 : decode cX2_copyFrom 68 = .ok (.invokevirtual 46, 3) := by decide +kernel
theorem dX2_copyFrom_71 : decode cX2_copyFrom 71 = .ok (.iinc 2 1, 3) := by decide +kernel
theorem dX2_copyFrom_74 : decode cX2_copyFrom 74 = .ok (.goto (-26), 3) := by decide +kernel
theorem dX2_copyFrom_77 : decode cX2_copyFrom 77 = .ok (.aload_n 0, 1) := by decide +kernel
theorem dX2_copyFrom_78 : decode cX2_copyFrom 78 = .ok (.aload_n 1, 1) := by decide +kernel
theorem dX2_copyFrom_79 : decode cX2_copyFrom 79 = .ok (.getfield 29, 3) := by decide +kernel
theorem dX2_copyFrom_82 : decode cX2_copyFrom 82 = .ok (.putfield 29, 3) := by decide +kernel
theorem dX2_copyFrom_85 : decode cX2_copyFrom 85 = .ok (.aload_n 0, 1) := by decide +kernel
theorem dX2_copyFrom_86 : decode cX2_copyFrom 86 = .ok (.aload_n 1, 1) := by decide +kernel
theorem dX2_copyFrom_87 : decode cX2_copyFrom 87 = .ok (.getfield 49, 3) := by decide +kernel
theorem dX2_copyFrom_90 : decode cX2_copyFrom 90 = .ok (.putfield 49, 3) := by decide +kernel
theorem dX2_copyFrom_93 : decode cX2_copyFrom 93 = .ok (.aload_n 0, 1) := by decide +kernel
theorem dX2_copyFrom_94 : decode cX2_copyFrom 94 = .ok (.aload_n 1, 1) := by decide +kernel
theorem dX2_copyFrom_95 : decode cX2_copyFrom 95 = .ok (.getfield 43, 3) := by decide +kernel
theorem dX2_copyFrom_98 : decode cX2_copyFrom 98 = .ok (.putfield 43, 3) := by decide +kernel
theorem dX2_copyFrom_101 : decode cX2_copyFrom 101 = .ok (.aload_n 0, 1) := by decide +kernel
theorem dX2_copyFrom_102 : decode cX2_copyFrom 102 = .ok (.aload_n 1, 1) := by decide +kernel
theorem dX2_copyFrom_103 : decode cX2_copyFrom 103 = .ok (.getfield 52, 3) := by decide +kernel
theorem dX2_copyFrom_106 : decode cX2_copyFrom 106 = .ok (.putfield 52, 3) := by decide +kernel
theorem dX2_copyFrom_109 : decode cX2_copyFrom 109 = .ok (.aload_n 0, 1) := by decide +kernel
theorem dX2_copyFrom_110 : decode cX2_copyFrom 110 = .ok (.aload_n 1, 1) := by decide +kernel
theorem dX2_copyFrom_111 : decode cX2_copyFrom 111 = .ok (.getfield 55, 3) := by decide +kernel
theorem dX2_copyFrom_114 : decode cX2_copyFrom 114 = .ok (.putfield 55, 3) := by decide +kernel
theorem dX2_copyFrom_117 : decode cX2_copyFrom 117 = .ok (.aload_n 0, 1) := by decide +kernel
theorem dX2_copyFrom_118 : decode cX2_copyFrom 118 = .ok (.aload_n 1, 1) := by decide +kernel
theorem dX2_copyFrom_119 : decode cX2_copyFrom 119 = .ok (.getfield 59, 3) := by decide +kernel
theorem dX2_copyFrom_122 : decode cX2_copyFrom 122 = .ok (.putfield 59, 3) := by decide +kernel
theorem dX2_copyFrom_125 : decode cX2_copyFrom 125 = .ok (.aload_n 0, 1) := by decide +kernel
theorem dX2_copyFrom_126 : decode cX2_copyFrom 126 = .ok (.aload_n 1, 1) := by decide +kernel
theorem dX2_copyFrom_127 : decode cX2_copyFrom 127 = .ok (.getfield 63, 3) := by decide +kernel
theorem dX2_copyFrom_130 : decode cX2_copyFrom 130 = .ok (.putfield 63, 3) := by decide +kernel
theorem dX2_copyFrom_133 : decode cX2_copyFrom 133 = .ok (.return_, 1) := by decide +kernel
theorem dX2_guideAt_0 : decode cX2_guideAt 0 = .ok (.iload_n 1, 1) := by decide +kernel
theorem dX2_guideAt_1 : decode cX2_guideAt 1 = .ok (.ifCond .lt 20, 3) := by decide +kernel
theorem dX2_guideAt_4 : decode cX2_guideAt 4 = .ok (.iload_n 1, 1) := by decide +kernel
theorem dX2_guideAt_5 : decode cX2_guideAt 5 = .ok (.aload_n 0, 1) := by decide +kernel
theorem dX2_guideAt_6 : decode cX2_guideAt 6 = .ok (.getfield 29, 3) := by decide +kernel
theorem dX2_guideAt_9 : decode cX2_guideAt 9 = .ok (.if_icmp .ge 12, 3) := by decide +kernel
theorem dX2_guideAt_12 : decode cX2_guideAt 12 = .ok (.aload_n 0, 1) := by decide +kernel
theorem dX2_guideAt_13 : decode cX2_guideAt 13 = .ok (.getfield 11, 3) := by decide +kernel
theorem dX2_guideAt_16 : decode cX2_guideAt 16 = .ok (.iload_n 1, 1) := by decide +kernel
theorem dX2_guideAt_17 : decode cX2_guideAt 17 = .ok (.aaload, 1) := by decide +kernel
theorem dX2_guideAt_18 : decode cX2_guideAt 18 = .ok (.goto 4, 3) := by decide +kernel
theorem dX2_guideAt_21 : decode cX2_guideAt 21 = .ok (.aconst_null, 1) := by decide +kernel
theorem dX2_guideAt_22 : decode cX2_guideAt 22 = .ok (.areturn, 1) := by decide +kernel
theorem dX2_tourAt_0 : decode cX2_tourAt 0 = .ok (.iload_n 1, 1) := by decide +kernel
theorem dX2_tourAt_1 : decode cX2_tourAt 1 = .ok (.ifCond .lt 20, 3) := by decide +kernel
theorem dX2_tourAt_4 : decode cX2_tourAt 4 = .ok (.iload_n 1, 1) := by decide +kernel
theorem dX2_tourAt_5 : decode cX2_tourAt 5 = .ok (.aload_n 0, 1) := by decide +kernel
theorem dX2_tourAt_6 : decode cX2_tourAt 6 = .ok (.getfield 43, 3) := by decide +kernel
theorem dX2_tourAt_9 : decode cX2_tourAt 9 = .ok (.if_icmp .ge 12, 3) := by decide +kernel
theorem dX2_tourAt_12 : decode cX2_tourAt 12 = .ok (.aload_n 0, 1) := by decide +kernel
theorem dX2_tourAt_13 : decode cX2_tourAt 13 = .ok (.getfield 24, 3) := by decide +kernel
theorem dX2_tourAt_16 : decode cX2_tourAt 16 = .ok (.iload_n 1, 1) := by decide +kernel
theorem dX2_tourAt_17 : decode cX2_tourAt 17 = .ok (.aaload, 1) := by decide +kernel
theorem dX2_tourAt_18 : decode cX2_tourAt 18 = .ok (.goto 4, 3) := by decide +kernel
theorem dX2_tourAt_21 : decode cX2_tourAt 21 = .ok (.aconst_null, 1) := by decide +kernel
theorem dX2_tourAt_22 : decode cX2_tourAt 22 = .ok (.areturn, 1) := by decide +kernel
theorem dX2_hasBridge_0 : decode cX2_hasBridge 0 = .ok (.iload_n 1, 1) := by decide +kernel
theorem dX2_hasBridge_1 : decode cX2_hasBridge 1 = .ok (.ifCond .lt 15, 3) := by decide +kernel
theorem dX2_hasBridge_4 : decode cX2_hasBridge 4 = .ok (.iload_n 1, 1) := by decide +kernel
theorem dX2_hasBridge_5 : decode cX2_hasBridge 5 = .ok (.aload_n 0, 1) := by decide +kernel
theorem dX2_hasBridge_6 : decode cX2_hasBridge 6 = .ok (.getfield 49, 3) := by decide +kernel
theorem dX2_hasBridge_9 : decode cX2_hasBridge 9 = .ok (.if_icmp .ge 7, 3) := by decide +kernel
theorem dX2_hasBridge_12 : decode cX2_hasBridge 12 = .ok (.iconst 1, 1) := by decide +kernel
theorem dX2_hasBridge_13 : decode cX2_hasBridge 13 = .ok (.goto 4, 3) := by decide +kernel
theorem dX2_hasBridge_16 : decode cX2_hasBridge 16 = .ok (.iconst 0, 1) := by decide +kernel
theorem dX2_hasBridge_17 : decode cX2_hasBridge 17 = .ok (.ireturn, 1) := by decide +kernel
theorem dX2_hasBridges_0 : decode cX2_hasBridges 0 = .ok (.iload_n 1, 1) := by decide +kernel
theorem dX2_hasBridges_1 : decode cX2_hasBridges 1 = .ok (.iconst 1, 1) := by decide +kernel
theorem dX2_hasBridges_2 : decode cX2_hasBridges 2 = .ok (.aload_n 0, 1) := by decide +kernel
theorem dX2_hasBridges_3 : decode cX2_hasBridges 3 = .ok (.getfield 49, 3) := by decide +kernel
theorem dX2_hasBridges_6 : decode cX2_hasBridges 6 = .ok (.ishl, 1) := by decide +kernel
theorem dX2_hasBridges_7 : decode cX2_hasBridges 7 = .ok (.iconst 1, 1) := by decide +kernel
theorem dX2_hasBridges_8 : decode cX2_hasBridges 8 = .ok (.isub, 1) := by decide +kernel
theorem dX2_hasBridges_9 : decode cX2_hasBridges 9 = .ok (.iconst (-1), 1) := by decide +kernel
theorem dX2_hasBridges_10 : decode cX2_hasBridges 10 = .ok (.ixor, 1) := by decide +kernel
theorem dX2_hasBridges_11 : decode cX2_hasBridges 11 = .ok (.iand, 1) := by decide +kernel
theorem dX2_hasBridges_12 : decode cX2_hasBridges 12 = .ok (.ifCond .ne 7, 3) := by decide +kernel
theorem dX2_hasBridges_15 : decode cX2_hasBridges 15 = .ok (.iconst 1, 1) := by decide +kernel
theorem dX2_hasBridges_16 : decode cX2_hasBridges 16 = .ok (.goto 4, 3) := by decide +kernel
theorem dX2_hasBridges_19 : decode cX2_hasBridges 19 = .ok (.iconst 0, 1) := by decide +kernel
theorem dX2_hasBridges_20 : decode cX2_hasBridges 20 = .ok (.ireturn, 1) := by decide +kernel
theorem dX2_mayLead_0 : decode cX2_mayLead 0 = .ok (.aload_n 2, 1) := by decide +kernel
theorem dX2_mayLead_1 : decode cX2_mayLead 1 = .ok (.getfield 66, 3) := by decide +kernel
theorem dX2_mayLead_4 : decode cX2_mayLead 4 = .ok (.ifCond .ne 35, 3) := by decide +kernel
theorem dX2_mayLead_7 : decode cX2_mayLead 7 = .ok (.aload_n 0, 1) := by decide +kernel
theorem dX2_mayLead_8 : decode cX2_mayLead 8 = .ok (.getfield 11, 3) := by decide +kernel
theorem dX2_mayLead_11 : decode cX2_mayLead 11 = .ok (.iload_n 1, 1) := by decide +kernel
theorem dX2_mayLead_12 : decode cX2_mayLead 12 = .ok (.aaload, 1) := by decide +kernel
theorem dX2_mayLead_13 : decode cX2_mayLead 13 = .ok (.aload_n 2, 1) := by decide +kernel
theorem dX2_mayLead_14 : decode cX2_mayLead 14 = .ok (.getfield 69, 3) := by decide +kernel
theorem dX2_mayLead_17 : decode cX2_mayLead 17 = .ok (.invokevirtual 70, 3) := by decide +kernel
theorem dX2_mayLead_20 : decode cX2_mayLead 20 = .ok (.ifCond .eq 19, 3) := by decide +kernel
theorem dX2_mayLead_23 : decode cX2_mayLead 23 = .ok (.aload_n 0, 1) := by decide +kernel
theorem dX2_mayLead_24 : decode cX2_mayLead 24 = .ok (.aload_n 2, 1) := by decide +kernel
theorem dX2_mayLead_25 : decode cX2_mayLead 25 = .ok (.getfield 69, 3) := by decide +kernel
theorem dX2_mayLead_28 : decode cX2_mayLead 28 = .ok (.iload_n 1, 1) := by decide +kernel
theorem dX2_mayLead_29 : decode cX2_mayLead 29 = .ok (.invokevirtual 74, 3) := by decide +kernel
theorem dX2_mayLead_32 : decode cX2_mayLead 32 = .ok (.ifCond .ne 7, 3) := by decide +kernel
theorem dX2_mayLead_35 : decode cX2_mayLead 35 = .ok (.iconst 1, 1) := by decide +kernel
theorem dX2_mayLead_36 : decode cX2_mayLead 36 = .ok (.goto 4, 3) := by decide +kernel
theorem dX2_mayLead_39 : decode cX2_mayLead 39 = .ok (.iconst 0, 1) := by decide +kernel
theorem dX2_mayLead_40 : decode cX2_mayLead 40 = .ok (.ireturn, 1) := by decide +kernel
theorem dX2_isBusyOn_0 : decode cX2_isBusyOn 0 = .ok (.iconst 0, 1) := by decide +kernel
theorem dX2_isBusyOn_1 : decode cX2_isBusyOn 1 = .ok (.istore_n 3, 1) := by decide +kernel
theorem dX2_isBusyOn_2 : decode cX2_isBusyOn 2 = .ok (.iload_n 3, 1) := by decide +kernel
theorem dX2_isBusyOn_3 : decode cX2_isBusyOn 3 = .ok (.aload_n 0, 1) := by decide +kernel
theorem dX2_isBusyOn_4 : decode cX2_isBusyOn 4 = .ok (.getfield 43, 3) := by decide +kernel
theorem dX2_isBusyOn_7 : decode cX2_isBusyOn 7 = .ok (.if_icmp .ge 49, 3) := by decide +kernel
theorem dX2_isBusyOn_10 : decode cX2_isBusyOn 10 = .ok (.aload_n 0, 1) := by decide +kernel
theorem dX2_isBusyOn_11 : decode cX2_isBusyOn 11 = .ok (.getfield 24, 3) := by decide +kernel
theorem dX2_isBusyOn_14 : decode cX2_isBusyOn 14 = .ok (.iload_n 3, 1) := by decide +kernel
theorem dX2_isBusyOn_15 : decode cX2_isBusyOn 15 = .ok (.aaload, 1) := by decide +kernel
theorem dX2_isBusyOn_16 : decode cX2_isBusyOn 16 = .ok (.getfield 66, 3) := by decide +kernel
theorem dX2_isBusyOn_19 : decode cX2_isBusyOn 19 = .ok (.ifCond .ne 31, 3) := by decide +kernel
theorem dX2_isBusyOn_22 : decode cX2_isBusyOn 22 = .ok (.aload_n 0, 1) := by decide +kernel
theorem dX2_isBusyOn_23 : decode cX2_isBusyOn 23 = .ok (.getfield 24, 3) := by decide +kernel
theorem dX2_isBusyOn_26 : decode cX2_isBusyOn 26 = .ok (.iload_n 3, 1) := by decide +kernel
theorem dX2_isBusyOn_27 : decode cX2_isBusyOn 27 = .ok (.aaload, 1) := by decide +kernel
theorem dX2_isBusyOn_28 : decode cX2_isBusyOn 28 = .ok (.getfield 69, 3) := by decide +kernel
theorem dX2_isBusyOn_31 : decode cX2_isBusyOn 31 = .ok (.iload_n 1, 1) := by decide +kernel
theorem dX2_isBusyOn_32 : decode cX2_isBusyOn 32 = .ok (.if_icmp .ne 18, 3) := by decide +kernel
theorem dX2_isBusyOn_35 : decode cX2_isBusyOn 35 = .ok (.aload_n 0, 1) := by decide +kernel
theorem dX2_isBusyOn_36 : decode cX2_isBusyOn 36 = .ok (.getfield 24, 3) := by decide +kernel
theorem dX2_isBusyOn_39 : decode cX2_isBusyOn 39 = .ok (.iload_n 3, 1) := by decide +kernel
theorem dX2_isBusyOn_40 : decode cX2_isBusyOn 40 = .ok (.aaload, 1) := by decide +kernel
theorem dX2_isBusyOn_41 : decode cX2_isBusyOn 41 = .ok (.iload_n 2, 1) := by decide +kernel
theorem dX2_isBusyOn_42 : decode cX2_isBusyOn 42 = .ok (.invokevirtual 78, 3) := by decide +kernel
theorem dX2_isBusyOn_45 : decode cX2_isBusyOn 45 = .ok (.ifCond .eq 5, 3) := by decide +kernel
theorem dX2_isBusyOn_48 : decode cX2_isBusyOn 48 = .ok (.iconst 1, 1) := by decide +kernel
theorem dX2_isBusyOn_49 : decode cX2_isBusyOn 49 = .ok (.ireturn, 1) := by decide +kernel
theorem dX2_isBusyOn_50 : decode cX2_isBusyOn 50 = .ok (.iinc 3 1, 3) := by decide +kernel
theorem dX2_isBusyOn_53 : decode cX2_isBusyOn 53 = .ok (.goto (-51), 3) := by decide +kernel
theorem dX2_isBusyOn_56 : decode cX2_isBusyOn 56 = .ok (.iconst 0, 1) := by decide +kernel
theorem dX2_isBusyOn_57 : decode cX2_isBusyOn 57 = .ok (.ireturn, 1) := by decide +kernel
theorem dX2_ratioOf_0 : decode cX2_ratioOf 0 = .ok (.aload_n 2, 1) := by decide +kernel
theorem dX2_ratioOf_1 : decode cX2_ratioOf 1 = .ok (.getfield 81, 3) := by decide +kernel
theorem dX2_ratioOf_4 : decode cX2_ratioOf 4 = .ok (.aload_n 0, 1) := by decide +kernel
theorem dX2_ratioOf_5 : decode cX2_ratioOf 5 = .ok (.getfield 11, 3) := by decide +kernel
theorem dX2_ratioOf_8 : decode cX2_ratioOf 8 = .ok (.iload_n 1, 1) := by decide +kernel
theorem dX2_ratioOf_9 : decode cX2_ratioOf 9 = .ok (.aaload, 1) := by decide +kernel
theorem dX2_ratioOf_10 : decode cX2_ratioOf 10 = .ok (.getfield 84, 3) := by decide +kernel
theorem dX2_ratioOf_13 : decode cX2_ratioOf 13 = .ok (.iadd, 1) := by decide +kernel
theorem dX2_ratioOf_14 : decode cX2_ratioOf 14 = .ok (.iconst 2, 1) := by decide +kernel
theorem dX2_ratioOf_15 : decode cX2_ratioOf 15 = .ok (.isub, 1) := by decide +kernel
theorem dX2_ratioOf_16 : decode cX2_ratioOf 16 = .ok (.istore_n 3, 1) := by decide +kernel
theorem dX2_ratioOf_17 : decode cX2_ratioOf 17 = .ok (.iload_n 3, 1) := by decide +kernel
theorem dX2_ratioOf_18 : decode cX2_ratioOf 18 = .ok (.iconst 1, 1) := by decide +kernel
theorem dX2_ratioOf_19 : decode cX2_ratioOf 19 = .ok (.if_icmp .ge 7, 3) := by decide +kernel
theorem dX2_ratioOf_22 : decode cX2_ratioOf 22 = .ok (.iconst 1, 1) := by decide +kernel
theorem dX2_ratioOf_23 : decode cX2_ratioOf 23 = .ok (.goto 4, 3) := by decide +kernel
theorem dX2_ratioOf_26 : decode cX2_ratioOf 26 = .ok (.iload_n 3, 1) := by decide +kernel
theorem dX2_ratioOf_27 : decode cX2_ratioOf 27 = .ok (.ireturn, 1) := by decide +kernel
theorem dX2_leftAfter_0 : decode cX2_leftAfter 0 = .ok (.aload_n 1, 1) := by decide +kernel
theorem dX2_leftAfter_1 : decode cX2_leftAfter 1 = .ok (.getfield 87, 3) := by decide +kernel
theorem dX2_leftAfter_4 : decode cX2_leftAfter 4 = .ok (.istore_n 3, 1) := by decide +kernel
theorem dX2_leftAfter_5 : decode cX2_leftAfter 5 = .ok (.iconst 0, 1) := by decide +kernel
theorem dX2_leftAfter_6 : decode cX2_leftAfter 6 = .ok (.istore 4, 2) := by decide +kernel
theorem dX2_leftAfter_8 : decode cX2_leftAfter 8 = .ok (.iload 4, 2) := by decide +kernel
theorem dX2_leftAfter_10 : decode cX2_leftAfter 10 = .ok (.iload_n 2, 1) := by decide +kernel
theorem dX2_leftAfter_11 : decode cX2_leftAfter 11 = .ok (.if_icmp .ge 24, 3) := by decide +kernel
theorem dX2_leftAfter_14 : decode cX2_leftAfter 14 = .ok (.iload_n 3, 1) := by decide +kernel
theorem dX2_leftAfter_15 : decode cX2_leftAfter 15 = .ok (.aload_n 0, 1) := by decide +kernel
theorem dX2_leftAfter_16 : decode cX2_leftAfter 16 = .ok (.aload_n 1, 1) := by decide +kernel
theorem dX2_leftAfter_17 : decode cX2_leftAfter 17 = .ok (.getfield 90, 3) := by decide +kernel
theorem dX2_leftAfter_20 : decode cX2_leftAfter 20 = .ok (.iload 4, 2) := by decide +kernel
theorem dX2_leftAfter_22 : decode cX2_leftAfter 22 = .ok (.iaload, 1) := by decide +kernel
theorem dX2_leftAfter_23 : decode cX2_leftAfter 23 = .ok (.aload_n 1, 1) := by decide +kernel
theorem dX2_leftAfter_24 : decode cX2_leftAfter 24 = .ok (.invokevirtual 94, 3) := by decide +kernel
theorem dX2_leftAfter_27 : decode cX2_leftAfter 27 = .ok (.isub, 1) := by decide +kernel
theorem dX2_leftAfter_28 : decode cX2_leftAfter 28 = .ok (.istore_n 3, 1) := by decide +kernel
theorem dX2_leftAfter_29 : decode cX2_leftAfter 29 = .ok (.iinc 4 1, 3) := by decide +kernel
theorem dX2_leftAfter_32 : decode cX2_leftAfter 32 = .ok (.goto (-24), 3) := by decide +kernel
theorem dX2_leftAfter_35 : decode cX2_leftAfter 35 = .ok (.iload_n 3, 1) := by decide +kernel
theorem dX2_leftAfter_36 : decode cX2_leftAfter 36 = .ok (.ifCond .ge 7, 3) := by decide +kernel
theorem dX2_leftAfter_39 : decode cX2_leftAfter 39 = .ok (.iconst 0, 1) := by decide +kernel
theorem dX2_leftAfter_40 : decode cX2_leftAfter 40 = .ok (.goto 4, 3) := by decide +kernel
theorem dX2_leftAfter_43 : decode cX2_leftAfter 43 = .ok (.iload_n 3, 1) := by decide +kernel
theorem dX2_leftAfter_44 : decode cX2_leftAfter 44 = .ok (.ireturn, 1) := by decide +kernel
theorem dX2_guestsOnRope_0 : decode cX2_guestsOnRope 0 = .ok (.aload_n 0, 1) := by decide +kernel
theorem dX2_guestsOnRope_1 : decode cX2_guestsOnRope 1 = .ok (.aload_n 1, 1) := by decide +kernel
theorem dX2_guestsOnRope_2 : decode cX2_guestsOnRope 2 = .ok (.iload_n 2, 1) := by decide +kernel
theorem dX2_guestsOnRope_3 : decode cX2_guestsOnRope 3 = .ok (.invokevirtual 98, 3) := by decide +kernel
theorem dX2_guestsOnRope_6 : decode cX2_guestsOnRope 6 = .ok (.aload_n 0, 1) := by decide +kernel
theorem dX2_guestsOnRope_7 : decode cX2_guestsOnRope 7 = .ok (.aload_n 1, 1) := by decide +kernel
theorem dX2_guestsOnRope_8 : decode cX2_guestsOnRope 8 = .ok (.iload_n 2, 1) := by decide +kernel
theorem dX2_guestsOnRope_9 : decode cX2_guestsOnRope 9 = .ok (.iconst 1, 1) := by decide +kernel
theorem dX2_guestsOnRope_10 : decode cX2_guestsOnRope 10 = .ok (.iadd, 1) := by decide +kernel
theorem dX2_guestsOnRope_11 : decode cX2_guestsOnRope 11 = .ok (.invokevirtual 98, 3) := by decide +kernel
theorem dX2_guestsOnRope_14 : decode cX2_guestsOnRope 14 = .ok (.isub, 1) := by decide +kernel
theorem dX2_guestsOnRope_15 : decode cX2_guestsOnRope 15 = .ok (.ireturn, 1) := by decide +kernel
theorem dX2_firstOpenTourOf_0 : decode cX2_firstOpenTourOf 0 = .ok (.iconst 0, 1) := by decide +kernel
theorem dX2_firstOpenTourOf_1 : decode cX2_firstOpenTourOf 1 = .ok (.istore_n 2, 1) := by decide +kernel
theorem dX2_firstOpenTourOf_2 : decode cX2_firstOpenTourOf 2 = .ok (.iload_n 2, 1) := by decide +kernel
theorem dX2_firstOpenTourOf_3 : decode cX2_firstOpenTourOf 3 = .ok (.aload_n 0, 1) := by decide +kernel
theorem dX2_firstOpenTourOf_4 : decode cX2_firstOpenTourOf 4 = .ok (.getfield 43, 3) := by decide +kernel
theorem dX2_firstOpenTourOf_7 : decode cX2_firstOpenTourOf 7 = .ok (.if_icmp .ge 36, 3) := by decide +kernel
theorem dX2_firstOpenTourOf_10 : decode cX2_firstOpenTourOf 10 = .ok (.aload_n 0, 1) := by decide +kernel
theorem dX2_firstOpenTourOf_11 : decode cX2_firstOpenTourOf 11 = .ok (.getfield 24, 3) := by decide +kernel
theorem dX2_firstOpenTourOf_14 : decode cX2_firstOpenTourOf 14 = .ok (.iload_n 2, 1) := by decide +kernel
theorem dX2_firstOpenTourOf_15 : decode cX2_firstOpenTourOf 15 = .ok (.aaload, 1) := by decide +kernel
theorem dX2_firstOpenTourOf_16 : decode cX2_firstOpenTourOf 16 = .ok (.getfield 66, 3) := by decide +kernel
theorem dX2_firstOpenTourOf_19 : decode cX2_firstOpenTourOf 19 = .ok (.ifCond .ne 18, 3) := by decide +kernel
theorem dX2_firstOpenTourOf_22 : decode cX2_firstOpenTourOf 22 = .ok (.aload_n 0, 1) := by decide +kernel
theorem dX2_firstOpenTourOf_23 : decode cX2_firstOpenTourOf 23 = .ok (.getfield 24, 3) := by decide +kernel
theorem dX2_firstOpenTourOf_26 : decode cX2_firstOpenTourOf 26 = .ok (.iload_n 2, 1) := by decide +kernel
theorem dX2_firstOpenTourOf_27 : decode cX2_firstOpenTourOf 27 = .ok (.aaload, 1) := by decide +kernel
theorem dX2_firstOpenTourOf_28 : decode cX2_firstOpenTourOf 28 = .ok (.iload_n 1, 1) := by decide +kernel
theorem dX2_firstOpenTourOf_29 : decode cX2_firstOpenTourOf 29 = .ok (.invokevirtual 78, 3) := by decide +kernel
theorem dX2_firstOpenTourOf_32 : decode cX2_firstOpenTourOf 32 = .ok (.ifCond .eq 5, 3) := by decide +kernel
theorem dX2_firstOpenTourOf_35 : decode cX2_firstOpenTourOf 35 = .ok (.iload_n 2, 1) := by decide +kernel
theorem dX2_firstOpenTourOf_36 : decode cX2_firstOpenTourOf 36 = .ok (.ireturn, 1) := by decide +kernel
theorem dX2_firstOpenTourOf_37 : decode cX2_firstOpenTourOf 37 = .ok (.iinc 2 1, 3) := by decide +kernel
theorem dX2_firstOpenTourOf_40 : decode cX2_firstOpenTourOf 40 = .ok (.goto (-38), 3) := by decide +kernel
theorem dX2_firstOpenTourOf_43 : decode cX2_firstOpenTourOf 43 = .ok (.bipush (-5), 2) := by decide +kernel
theorem dX2_firstOpenTourOf_45 : decode cX2_firstOpenTourOf 45 = .ok (.ireturn, 1) := by decide +kernel
theorem dX2_neededBy_0 : decode cX2_neededBy 0 = .ok (.iconst 0, 1) := by decide +kernel
theorem dX2_neededBy_1 : decode cX2_neededBy 1 = .ok (.istore_n 2, 1) := by decide +kernel
theorem dX2_neededBy_2 : decode cX2_neededBy 2 = .ok (.aload_n 1, 1) := by decide +kernel
theorem dX2_neededBy_3 : decode cX2_neededBy 3 = .ok (.getfield 87, 3) := by decide +kernel
theorem dX2_neededBy_6 : decode cX2_neededBy 6 = .ok (.istore_n 3, 1) := by decide +kernel
theorem dX2_neededBy_7 : decode cX2_neededBy 7 = .ok (.iconst 0, 1) := by decide +kernel
theorem dX2_neededBy_8 : decode cX2_neededBy 8 = .ok (.istore 4, 2) := by decide +kernel
theorem dX2_neededBy_10 : decode cX2_neededBy 10 = .ok (.iload 4, 2) := by decide +kernel
theorem dX2_neededBy_12 : decode cX2_neededBy 12 = .ok (.aload_n 1, 1) := by decide +kernel
theorem dX2_neededBy_13 : decode cX2_neededBy 13 = .ok (.getfield 102, 3) := by decide +kernel
theorem dX2_neededBy_16 : decode cX2_neededBy 16 = .ok (.if_icmp .ge 40, 3) := by decide +kernel
theorem dX2_neededBy_19 : decode cX2_neededBy 19 = .ok (.aload_n 0, 1) := by decide +kernel
theorem dX2_neededBy_20 : decode cX2_neededBy 20 = .ok (.aload_n 1, 1) := by decide +kernel
theorem dX2_neededBy_21 : decode cX2_neededBy 21 = .ok (.iload 4, 2) := by decide +kernel
theorem dX2_neededBy_23 : decode cX2_neededBy 23 = .ok (.iconst 1, 1) := by decide +kernel
theorem dX2_neededBy_24 : decode cX2_neededBy 24 = .ok (.iadd, 1) := by decide +kernel
theorem dX2_neededBy_25 : decode cX2_neededBy 25 = .ok (.invokevirtual 98, 3) := by decide +kernel
theorem dX2_neededBy_28 : decode cX2_neededBy 28 = .ok (.istore 5, 2) := by decide +kernel
theorem dX2_neededBy_30 : decode cX2_neededBy 30 = .ok (.iload_n 3, 1) := by decide +kernel
theorem dX2_neededBy_31 : decode cX2_neededBy 31 = .ok (.iload 5, 2) := by decide +kernel
theorem dX2_neededBy_33 : decode cX2_neededBy 33 = .ok (.isub, 1) := by decide +kernel
theorem dX2_neededBy_34 : decode cX2_neededBy 34 = .ok (.iload_n 2, 1) := by decide +kernel
theorem dX2_neededBy_35 : decode cX2_neededBy 35 = .ok (.if_icmp .le 10, 3) := by decide +kernel
theorem dX2_neededBy_38 : decode cX2_neededBy 38 = .ok (.iload_n 3, 1) := by decide +kernel
theorem dX2_neededBy_39 : decode cX2_neededBy 39 = .ok (.iload 5, 2) := by decide +kernel
theorem dX2_neededBy_41 : decode cX2_neededBy 41 = .ok (.isub, 1) := by decide +kernel
theorem dX2_neededBy_42 : decode cX2_neededBy 42 = .ok (.goto 4, 3) := by decide +kernel
theorem dX2_neededBy_45 : decode cX2_neededBy 45 = .ok (.iload_n 2, 1) := by decide +kernel
theorem dX2_neededBy_46 : decode cX2_neededBy 46 = .ok (.istore_n 2, 1) := by decide +kernel
theorem dX2_neededBy_47 : decode cX2_neededBy 47 = .ok (.iload 5, 2) := by decide +kernel
theorem dX2_neededBy_49 : decode cX2_neededBy 49 = .ok (.istore_n 3, 1) := by decide +kernel
theorem dX2_neededBy_50 : decode cX2_neededBy 50 = .ok (.iinc 4 1, 3) := by decide +kernel
theorem dX2_neededBy_53 : decode cX2_neededBy 53 = .ok (.goto (-43), 3) := by decide +kernel
theorem dX2_neededBy_56 : decode cX2_neededBy 56 = .ok (.ldc2_w 104, 3) := by decide +kernel
theorem dX2_neededBy_59 : decode cX2_neededBy 59 = .ok (.ldc2_w 106, 3) := by decide +kernel
theorem dX2_neededBy_62 : decode cX2_neededBy 62 = .ok (.iload_n 2, 1) := by decide +kernel
theorem dX2_neededBy_63 : decode cX2_neededBy 63 = .ok (.iconst 1, 1) := by decide +kernel
theorem dX2_neededBy_64 : decode cX2_neededBy 64 = .ok (.iadd, 1) := by decide +kernel
theorem dX2_neededBy_65 : decode cX2_neededBy 65 = .ok (.i2d, 1) := by decide +kernel
theorem dX2_neededBy_66 : decode cX2_neededBy 66 = .ok (.dmul, 1) := by decide +kernel
theorem dX2_neededBy_67 : decode cX2_neededBy 67 = .ok (.dadd, 1) := by decide +kernel
theorem dX2_neededBy_68 : decode cX2_neededBy 68 = .ok (.dreturn, 1) := by decide +kernel
theorem dX2_allBridgesHold_0 : decode cX2_allBridgesHold 0 = .ok (.aload_n 0, 1) := by decide +kernel
theorem dX2_allBridgesHold_1 : decode cX2_allBridgesHold 1 = .ok (.aload_n 1, 1) := by decide +kernel
theorem dX2_allBridgesHold_2 : decode cX2_allBridgesHold 2 = .ok (.invokevirtual 108, 3) := by decide +kernel
theorem dX2_allBridgesHold_5 : decode cX2_allBridgesHold 5 = .ok (.dstore_n 2, 1) := by decide +kernel
theorem dX2_allBridgesHold_6 : decode cX2_allBridgesHold 6 = .ok (.iconst 0, 1) := by decide +kernel
theorem dX2_allBridgesHold_7 : decode cX2_allBridgesHold 7 = .ok (.istore 4, 2) := by decide +kernel
theorem dX2_allBridgesHold_9 : decode cX2_allBridgesHold 9 = .ok (.iload 4, 2) := by decide +kernel
theorem dX2_allBridgesHold_11 : decode cX2_allBridgesHold 11 = .ok (.aload_n 0, 1) := by decide +kernel
theorem dX2_allBridgesHold_12 : decode cX2_allBridgesHold 12 = .ok (.getfield 49, 3) := by decide +kernel
theorem dX2_allBridgesHold_15 : decode cX2_allBridgesHold 15 = .ok (.if_icmp .ge 35, 3) := by decide +kernel
theorem dX2_allBridgesHold_18 : decode cX2_allBridgesHold 18 = .ok (.aload_n 1, 1) := by decide +kernel
theorem dX2_allBridgesHold_19 : decode cX2_allBridgesHold 19 = .ok (.getfield 112, 3) := by decide +kernel
theorem dX2_allBridgesHold_22 : decode cX2_allBridgesHold 22 = .ok (.iload 4, 2) := by decide +kernel
theorem dX2_allBridgesHold_24 : decode cX2_allBridgesHold 24 = .ok (.ishr, 1) := by decide +kernel
theorem dX2_allBridgesHold_25 : decode cX2_allBridgesHold 25 = .ok (.iconst 1, 1) := by decide +kernel
theorem dX2_allBridgesHold_26 : decode cX2_allBridgesHold 26 = .ok (.iand, 1) := by decide +kernel
theorem dX2_allBridgesHold_27 : decode cX2_allBridgesHold 27 = .ok (.ifCond .eq 17, 3) := by decide +kernel
theorem dX2_allBridgesHold_30 : decode cX2_allBridgesHold 30 = .ok (.aload_n 0, 1) := by decide +kernel
theorem dX2_allBridgesHold_31 : decode cX2_allBridgesHold 31 = .ok (.getfield 18, 3) := by decide +kernel
theorem dX2_allBridgesHold_34 : decode cX2_allBridgesHold 34 = .ok (.iload 4, 2) := by decide +kernel
theorem dX2_allBridgesHold_36 : decode cX2_allBridgesHold 36 = .ok (.daload, 1) := by decide +kernel
theorem dX2_allBridgesHold_37 : decode cX2_allBridgesHold 37 = .ok (.dload_n 2, 1) := by decide +kernel
theorem dX2_allBridgesHold_38 : decode cX2_allBridgesHold 38 = .ok (.dcmp .l, 1) := by decide +kernel
theorem dX2_allBridgesHold_39 : decode cX2_allBridgesHold 39 = .ok (.ifCond .ge 5, 3) := by decide +kernel
theorem dX2_allBridgesHold_42 : decode cX2_allBridgesHold 42 = .ok (.iconst 0, 1) := by decide +kernel
theorem dX2_allBridgesHold_43 : decode cX2_allBridgesHold 43 = .ok (.ireturn, 1) := by decide +kernel
theorem dX2_allBridgesHold_44 : decode cX2_allBridgesHold 44 = .ok (.iinc 4 1, 3) := by decide +kernel
theorem dX2_allBridgesHold_47 : decode cX2_allBridgesHold 47 = .ok (.goto (-38), 3) := by decide +kernel
theorem dX2_allBridgesHold_50 : decode cX2_allBridgesHold 50 = .ok (.iconst 1, 1) := by decide +kernel
theorem dX2_allBridgesHold_51 : decode cX2_allBridgesHold 51 = .ok (.ireturn, 1) := by decide +kernel
theorem dX2_dayLater_0 : decode cX2_dayLater 0 = .ok (.aload_n 0, 1) := by decide +kernel
theorem dX2_dayLater_1 : decode cX2_dayLater 1 = .ok (.getfield 59, 3) := by decide +kernel
theorem dX2_dayLater_4 : decode cX2_dayLater 4 = .ok (.dconst 0, 1) := by decide +kernel
theorem dX2_dayLater_5 : decode cX2_dayLater 5 = .ok (.dcmp .l, 1) := by decide +kernel
theorem dX2_dayLater_6 : decode cX2_dayLater 6 = .ok (.ifCond .le 26, 3) := by decide +kernel
theorem dX2_dayLater_9 : decode cX2_dayLater 9 = .ok (.dload_n 1, 1) := by decide +kernel
theorem dX2_dayLater_10 : decode cX2_dayLater 10 = .ok (.ldc2_w 115, 3) := by decide +kernel
theorem dX2_dayLater_13 : decode cX2_dayLater 13 = .ok (.aload_n 0, 1) := by decide +kernel
theorem dX2_dayLater_14 : decode cX2_dayLater 14 = .ok (.getfield 59, 3) := by decide +kernel
theorem dX2_dayLater_17 : decode cX2_dayLater 17 = .ok (.dmul, 1) := by decide +kernel
theorem dX2_dayLater_18 : decode cX2_dayLater 18 = .ok (.dsub, 1) := by decide +kernel
theorem dX2_dayLater_19 : decode cX2_dayLater 19 = .ok (.dstore_n 3, 1) := by decide +kernel
theorem dX2_dayLater_20 : decode cX2_dayLater 20 = .ok (.dload_n 3, 1) := by decide +kernel
theorem dX2_dayLater_21 : decode cX2_dayLater 21 = .ok (.dconst 0, 1) := by decide +kernel
theorem dX2_dayLater_22 : decode cX2_dayLater 22 = .ok (.dcmp .g, 1) := by decide +kernel
theorem dX2_dayLater_23 : decode cX2_dayLater 23 = .ok (.ifCond .ge 7, 3) := by decide +kernel
theorem dX2_dayLater_26 : decode cX2_dayLater 26 = .ok (.dconst 0, 1) := by decide +kernel
theorem dX2_dayLater_27 : decode cX2_dayLater 27 = .ok (.goto 4, 3) := by decide +kernel
theorem dX2_dayLater_30 : decode cX2_dayLater 30 = .ok (.dload_n 3, 1) := by decide +kernel
theorem dX2_dayLater_31 : decode cX2_dayLater 31 = .ok (.dreturn, 1) := by decide +kernel
theorem dX2_dayLater_32 : decode cX2_dayLater 32 = .ok (.aload_n 0, 1) := by decide +kernel
theorem dX2_dayLater_33 : decode cX2_dayLater 33 = .ok (.getfield 59, 3) := by decide +kernel
theorem dX2_dayLater_36 : decode cX2_dayLater 36 = .ok (.dconst 0, 1) := by decide +kernel
theorem dX2_dayLater_37 : decode cX2_dayLater 37 = .ok (.dcmp .g, 1) := by decide +kernel
theorem dX2_dayLater_38 : decode cX2_dayLater 38 = .ok (.ifCond .ge 30, 3) := by decide +kernel
theorem dX2_dayLater_41 : decode cX2_dayLater 41 = .ok (.dload_n 1, 1) := by decide +kernel
theorem dX2_dayLater_42 : decode cX2_dayLater 42 = .ok (.ldc2_w 117, 3) := by decide +kernel
theorem dX2_dayLater_45 : decode cX2_dayLater 45 = .ok (.aload_n 0, 1) := by decide +kernel
theorem dX2_dayLater_46 : decode cX2_dayLater 46 = .ok (.getfield 59, 3) := by decide +kernel
theorem dX2_dayLater_49 : decode cX2_dayLater 49 = .ok (.dmul, 1) := by decide +kernel
theorem dX2_dayLater_50 : decode cX2_dayLater 50 = .ok (.dsub, 1) := by decide +kernel
theorem dX2_dayLater_51 : decode cX2_dayLater 51 = .ok (.dstore_n 3, 1) := by decide +kernel
theorem dX2_dayLater_52 : decode cX2_dayLater 52 = .ok (.dload_n 3, 1) := by decide +kernel
theorem dX2_dayLater_53 : decode cX2_dayLater 53 = .ok (.ldc2_w 119, 3) := by decide +kernel
theorem dX2_dayLater_56 : decode cX2_dayLater 56 = .ok (.dcmp .l, 1) := by decide +kernel
theorem dX2_dayLater_57 : decode cX2_dayLater 57 = .ok (.ifCond .le 9, 3) := by decide +kernel
theorem dX2_dayLater_60 : decode cX2_dayLater 60 = .ok (.ldc2_w 119, 3) := by decide +kernel
theorem dX2_dayLater_63 : decode cX2_dayLater 63 = .ok (.goto 4, 3) := by decide +kernel
theorem dX2_dayLater_66 : decode cX2_dayLater 66 = .ok (.dload_n 3, 1) := by decide +kernel
theorem dX2_dayLater_67 : decode cX2_dayLater 67 = .ok (.dreturn, 1) := by decide +kernel
theorem dX2_dayLater_68 : decode cX2_dayLater 68 = .ok (.dload_n 1, 1) := by decide +kernel
theorem dX2_dayLater_69 : decode cX2_dayLater 69 = .ok (.dreturn, 1) := by decide +kernel
theorem dX2_causeAgainst_0 : decode cX2_causeAgainst 0 = .ok (.aload_n 1, 1) := by decide +kernel
theorem dX2_causeAgainst_1 : decode cX2_causeAgainst 1 = .ok (.getfield 87, 3) := by decide +kernel
theorem dX2_causeAgainst_4 : decode cX2_causeAgainst 4 = .ok (.ifCond .ne 5, 3) := by decide +kernel
theorem dX2_causeAgainst_7 : decode cX2_causeAgainst 7 = .ok (.iconst 1, 1) := by decide +kernel
theorem dX2_causeAgainst_8 : decode cX2_causeAgainst 8 = .ok (.ireturn, 1) := by decide +kernel
theorem dX2_causeAgainst_9 : decode cX2_causeAgainst 9 = .ok (.aload_n 0, 1) := by decide +kernel
theorem dX2_causeAgainst_10 : decode cX2_causeAgainst 10 = .ok (.aload_n 1, 1) := by decide +kernel
theorem dX2_causeAgainst_11 : decode cX2_causeAgainst 11 = .ok (.invokevirtual 121, 3) := by decide +kernel
theorem dX2_causeAgainst_14 : decode cX2_causeAgainst 14 = .ok (.ifCond .ne 5, 3) := by decide +kernel
theorem dX2_causeAgainst_17 : decode cX2_causeAgainst 17 = .ok (.iconst 2, 1) := by decide +kernel
theorem dX2_causeAgainst_18 : decode cX2_causeAgainst 18 = .ok (.ireturn, 1) := by decide +kernel
theorem dX2_causeAgainst_19 : decode cX2_causeAgainst 19 = .ok (.aload_n 0, 1) := by decide +kernel
theorem dX2_causeAgainst_20 : decode cX2_causeAgainst 20 = .ok (.aload_n 1, 1) := by decide +kernel
theorem dX2_causeAgainst_21 : decode cX2_causeAgainst 21 = .ok (.aload_n 1, 1) := by decide +kernel
theorem dX2_causeAgainst_22 : decode cX2_causeAgainst 22 = .ok (.getfield 102, 3) := by decide +kernel
theorem dX2_causeAgainst_25 : decode cX2_causeAgainst 25 = .ok (.invokevirtual 98, 3) := by decide +kernel
theorem dX2_causeAgainst_28 : decode cX2_causeAgainst 28 = .ok (.ifCond .gt 11, 3) := by decide +kernel
theorem dX2_causeAgainst_31 : decode cX2_causeAgainst 31 = .ok (.aload_n 0, 1) := by decide +kernel
theorem dX2_causeAgainst_32 : decode cX2_causeAgainst 32 = .ok (.aload_n 1, 1) := by decide +kernel
theorem dX2_causeAgainst_33 : decode cX2_causeAgainst 33 = .ok (.invokevirtual 125, 3) := by decide +kernel
theorem dX2_causeAgainst_36 : decode cX2_causeAgainst 36 = .ok (.ifCond .ne 5, 3) := by decide +kernel
theorem dX2_causeAgainst_39 : decode cX2_causeAgainst 39 = .ok (.iconst 3, 1) := by decide +kernel
theorem dX2_causeAgainst_40 : decode cX2_causeAgainst 40 = .ok (.ireturn, 1) := by decide +kernel
theorem dX2_causeAgainst_41 : decode cX2_causeAgainst 41 = .ok (.iconst 0, 1) := by decide +kernel
theorem dX2_causeAgainst_42 : decode cX2_causeAgainst 42 = .ok (.ireturn, 1) := by decide +kernel
theorem dX2_allGuidesAreValid_0 : decode cX2_allGuidesAreValid 0 = .ok (.iconst 0, 1) := by decide +kernel
theorem dX2_allGuidesAreValid_1 : decode cX2_allGuidesAreValid 1 = .ok (.istore_n 2, 1) := by decide +kernel
theorem dX2_allGuidesAreValid_2 : decode cX2_allGuidesAreValid 2 = .ok (.iload_n 2, 1) := by decide +kernel
theorem dX2_allGuidesAreValid_3 : decode cX2_allGuidesAreValid 3 = .ok (.aload_n 1, 1) := by decide +kernel
theorem dX2_allGuidesAreValid_4 : decode cX2_allGuidesAreValid 4 = .ok (.getfield 102, 3) := by decide +kernel
theorem dX2_allGuidesAreValid_7 : decode cX2_allGuidesAreValid 7 = .ok (.if_icmp .ge 32, 3) := by decide +kernel
theorem dX2_allGuidesAreValid_10 : decode cX2_allGuidesAreValid 10 = .ok (.aload_n 0, 1) := by decide +kernel
theorem dX2_allGuidesAreValid_11 : decode cX2_allGuidesAreValid 11 = .ok (.getfield 11, 3) := by decide +kernel
theorem dX2_allGuidesAreValid_14 : decode cX2_allGuidesAreValid 14 = .ok (.aload_n 1, 1) := by decide +kernel
theorem dX2_allGuidesAreValid_15 : decode cX2_allGuidesAreValid 15 = .ok (.getfield 90, 3) := by decide +kernel
theorem dX2_allGuidesAreValid_18 : decode cX2_allGuidesAreValid 18 = .ok (.iload_n 2, 1) := by decide +kernel
theorem dX2_allGuidesAreValid_19 : decode cX2_allGuidesAreValid 19 = .ok (.iaload, 1) := by decide +kernel
theorem dX2_allGuidesAreValid_20 : decode cX2_allGuidesAreValid 20 = .ok (.aaload, 1) := by decide +kernel
theorem dX2_allGuidesAreValid_21 : decode cX2_allGuidesAreValid 21 = .ok (.aload_n 1, 1) := by decide +kernel
theorem dX2_allGuidesAreValid_22 : decode cX2_allGuidesAreValid 22 = .ok (.getfield 69, 3) := by decide +kernel
theorem dX2_allGuidesAreValid_25 : decode cX2_allGuidesAreValid 25 = .ok (.invokevirtual 70, 3) := by decide +kernel
theorem dX2_allGuidesAreValid_28 : decode cX2_allGuidesAreValid 28 = .ok (.ifCond .ne 5, 3) := by decide +kernel
theorem dX2_allGuidesAreValid_31 : decode cX2_allGuidesAreValid 31 = .ok (.iconst 0, 1) := by decide +kernel
theorem dX2_allGuidesAreValid_32 : decode cX2_allGuidesAreValid 32 = .ok (.ireturn, 1) := by decide +kernel
theorem dX2_allGuidesAreValid_33 : decode cX2_allGuidesAreValid 33 = .ok (.iinc 2 1, 3) := by decide +kernel
theorem dX2_allGuidesAreValid_36 : decode cX2_allGuidesAreValid 36 = .ok (.goto (-34), 3) := by decide +kernel
theorem dX2_allGuidesAreValid_39 : decode cX2_allGuidesAreValid 39 = .ok (.iconst 1, 1) := by decide +kernel
theorem dX2_allGuidesAreValid_40 : decode cX2_allGuidesAreValid 40 = .ok (.ireturn, 1) := by decide +kernel
theorem dX2_passDay_0 : decode cX2_passDay 0 = .ok (.iconst 0, 1) := by decide +kernel
theorem dX2_passDay_1 : decode cX2_passDay 1 = .ok (.istore_n 1, 1) := by decide +kernel
theorem dX2_passDay_2 : decode cX2_passDay 2 = .ok (.iconst 0, 1) := by decide +kernel
theorem dX2_passDay_3 : decode cX2_passDay 3 = .ok (.istore_n 2, 1) := by decide +kernel
theorem dX2_passDay_4 : decode cX2_passDay 4 = .ok (.iload_n 2, 1) := by decide +kernel
theorem dX2_passDay_5 : decode cX2_passDay 5 = .ok (.aload_n 0, 1) := by decide +kernel
theorem dX2_passDay_6 : decode cX2_passDay 6 = .ok (.getfield 43, 3) := by decide +kernel
theorem dX2_passDay_9 : decode cX2_passDay 9 = .ok (.if_icmp .ge 65, 3) := by decide +kernel
theorem dX2_passDay_12 : decode cX2_passDay 12 = .ok (.aload_n 0, 1) := by decide +kernel
theorem dX2_passDay_13 : decode cX2_passDay 13 = .ok (.getfield 24, 3) := by decide +kernel
theorem dX2_passDay_16 : decode cX2_passDay 16 = .ok (.iload_n 2, 1) := by decide +kernel
theorem dX2_passDay_17 : decode cX2_passDay 17 = .ok (.aaload, 1) := by decide +kernel
theorem dX2_passDay_18 : decode cX2_passDay 18 = .ok (.astore_n 3, 1) := by decide +kernel
theorem dX2_passDay_19 : decode cX2_passDay 19 = .ok (.aload_n 3, 1) := by decide +kernel
theorem dX2_passDay_20 : decode cX2_passDay 20 = .ok (.getfield 66, 3) := by decide +kernel
theorem dX2_passDay_23 : decode cX2_passDay 23 = .ok (.ifCond .ne 45, 3) := by decide +kernel
theorem dX2_passDay_26 : decode cX2_passDay 26 = .ok (.aload_n 3, 1) := by decide +kernel
theorem dX2_passDay_27 : decode cX2_passDay 27 = .ok (.getfield 69, 3) := by decide +kernel
theorem dX2_passDay_30 : decode cX2_passDay 30 = .ok (.aload_n 0, 1) := by decide +kernel
theorem dX2_passDay_31 : decode cX2_passDay 31 = .ok (.getfield 52, 3) := by decide +kernel
theorem dX2_passDay_34 : decode cX2_passDay 34 = .ok (.if_icmp .ne 34, 3) := by decide +kernel
theorem dX2_passDay_37 : decode cX2_passDay 37 = .ok (.aload_n 0, 1) := by decide +kernel
theorem dX2_passDay_38 : decode cX2_passDay 38 = .ok (.aload_n 3, 1) := by decide +kernel
theorem dX2_passDay_39 : decode cX2_passDay 39 = .ok (.invokevirtual 128, 3) := by decide +kernel
theorem dX2_passDay_42 : decode cX2_passDay 42 = .ok (.istore 4, 2) := by decide +kernel
theorem dX2_passDay_44 : decode cX2_passDay 44 = .ok (.iload 4, 2) := by decide +kernel
theorem dX2_passDay_46 : decode cX2_passDay 46 = .ok (.ifCond .ne 14, 3) := by decide +kernel
theorem dX2_passDay_49 : decode cX2_passDay 49 = .ok (.aload_n 0, 1) := by decide +kernel
theorem dX2_passDay_50 : decode cX2_passDay 50 = .ok (.aload_n 3, 1) := by decide +kernel
theorem dX2_passDay_51 : decode cX2_passDay 51 = .ok (.invokevirtual 132, 3) := by decide +kernel
theorem dX2_passDay_54 : decode cX2_passDay 54 = .ok (.iinc 1 1, 3) := by decide +kernel
theorem dX2_passDay_57 : decode cX2_passDay 57 = .ok (.goto 11, 3) := by decide +kernel
theorem dX2_passDay_60 : decode cX2_passDay 60 = .ok (.aload_n 0, 1) := by decide +kernel
theorem dX2_passDay_61 : decode cX2_passDay 61 = .ok (.aload_n 3, 1) := by decide +kernel
theorem dX2_passDay_62 : decode cX2_passDay 62 = .ok (.iload 4, 2) := by decide +kernel
theorem dX2_passDay_64 : decode cX2_passDay 64 = .ok (.invokevirtual 135, 3) := by decide +kernel
theorem dX2_passDay_67 : decode cX2_passDay 67 = .ok (.pop, 1) := by decide +kernel
theorem dX2_passDay_68 : decode cX2_passDay 68 = .ok (.iinc 2 1, 3) := by decide +kernel
theorem dX2_passDay_71 : decode cX2_passDay 71 = .ok (.goto (-67), 3) := by decide +kernel
theorem dX2_passDay_74 : decode cX2_passDay 74 = .ok (.iconst 0, 1) := by decide +kernel
theorem dX2_passDay_75 : decode cX2_passDay 75 = .ok (.istore_n 2, 1) := by decide +kernel
theorem dX2_passDay_76 : decode cX2_passDay 76 = .ok (.iload_n 2, 1) := by decide +kernel
theorem dX2_passDay_77 : decode cX2_passDay 77 = .ok (.aload_n 0, 1) := by decide +kernel
theorem dX2_passDay_78 : decode cX2_passDay 78 = .ok (.getfield 49, 3) := by decide +kernel
theorem dX2_passDay_81 : decode cX2_passDay 81 = .ok (.if_icmp .ge 25, 3) := by decide +kernel
theorem dX2_passDay_84 : decode cX2_passDay 84 = .ok (.aload_n 0, 1) := by decide +kernel
theorem dX2_passDay_85 : decode cX2_passDay 85 = .ok (.getfield 18, 3) := by decide +kernel
theorem dX2_passDay_88 : decode cX2_passDay 88 = .ok (.iload_n 2, 1) := by decide +kernel
theorem dX2_passDay_89 : decode cX2_passDay 89 = .ok (.aload_n 0, 1) := by decide +kernel
theorem dX2_passDay_90 : decode cX2_passDay 90 = .ok (.aload_n 0, 1) := by decide +kernel
theorem dX2_passDay_91 : decode cX2_passDay 91 = .ok (.getfield 18, 3) := by decide +kernel
theorem dX2_passDay_94 : decode cX2_passDay 94 = .ok (.iload_n 2, 1) := by decide +kernel
theorem dX2_passDay_95 : decode cX2_passDay 95 = .ok (.daload, 1) := by decide +kernel
theorem dX2_passDay_96 : decode cX2_passDay 96 = .ok (.invokevirtual 138, 3) := by decide +kernel
theorem dX2_passDay_99 : decode cX2_passDay 99 = .ok (.dastore, 1) := by decide +kernel
theorem dX2_passDay_100 : decode cX2_passDay 100 = .ok (.iinc 2 1, 3) := by decide +kernel
theorem dX2_passDay_103 : decode cX2_passDay 103 = .ok (.goto (-27), 3) := by decide +kernel
theorem dX2_passDay_106 : decode cX2_passDay 106 = .ok (.aload_n 0, 1) := by decide +kernel
theorem dX2_passDay_107 : decode cX2_passDay 107 = .ok (.dup, 1) := by decide +kernel
theorem dX2_passDay_108 : decode cX2_passDay 108 = .ok (.getfield 52, 3) := by decide +kernel
theorem dX2_passDay_111 : decode cX2_passDay 111 = .ok (.iconst 1, 1) := by decide +kernel
theorem dX2_passDay_112 : decode cX2_passDay 112 = .ok (.iadd, 1) := by decide +kernel
theorem dX2_passDay_113 : decode cX2_passDay 113 = .ok (.putfield 52, 3) := by decide +kernel
theorem dX2_passDay_116 : decode cX2_passDay 116 = .ok (.iload_n 1, 1) := by decide +kernel
theorem dX2_passDay_117 : decode cX2_passDay 117 = .ok (.ireturn, 1) := by decide +kernel
theorem dX2_letGo_0 : decode cX2_letGo 0 = .ok (.aload_n 1, 1) := by decide +kernel
theorem dX2_letGo_1 : decode cX2_letGo 1 = .ok (.iconst 1, 1) := by decide +kernel
theorem dX2_letGo_2 : decode cX2_letGo 2 = .ok (.putfield 66, 3) := by decide +kernel
theorem dX2_letGo_5 : decode cX2_letGo 5 = .ok (.iconst 0, 1) := by decide +kernel
theorem dX2_letGo_6 : decode cX2_letGo 6 = .ok (.istore_n 2, 1) := by decide +kernel
theorem dX2_letGo_7 : decode cX2_letGo 7 = .ok (.iload_n 2, 1) := by decide +kernel
theorem dX2_letGo_8 : decode cX2_letGo 8 = .ok (.aload_n 1, 1) := by decide +kernel
theorem dX2_letGo_9 : decode cX2_letGo 9 = .ok (.getfield 102, 3) := by decide +kernel
theorem dX2_letGo_12 : decode cX2_letGo 12 = .ok (.if_icmp .ge 29, 3) := by decide +kernel
theorem dX2_letGo_15 : decode cX2_letGo 15 = .ok (.aload_n 0, 1) := by decide +kernel
theorem dX2_letGo_16 : decode cX2_letGo 16 = .ok (.getfield 11, 3) := by decide +kernel
theorem dX2_letGo_19 : decode cX2_letGo 19 = .ok (.aload_n 1, 1) := by decide +kernel
theorem dX2_letGo_20 : decode cX2_letGo 20 = .ok (.getfield 90, 3) := by decide +kernel
theorem dX2_letGo_23 : decode cX2_letGo 23 = .ok (.iload_n 2, 1) := by decide +kernel
theorem dX2_letGo_24 : decode cX2_letGo 24 = .ok (.iaload, 1) := by decide +kernel
theorem dX2_letGo_25 : decode cX2_letGo 25 = .ok (.aaload, 1) := by decide +kernel
theorem dX2_letGo_26 : decode cX2_letGo 26 = .ok (.aload_n 0, 1) := by decide +kernel
theorem dX2_letGo_27 : decode cX2_letGo 27 = .ok (.aload_n 1, 1) := by decide +kernel
theorem dX2_letGo_28 : decode cX2_letGo 28 = .ok (.iload_n 2, 1) := by decide +kernel
theorem dX2_letGo_29 : decode cX2_letGo 29 = .ok (.invokevirtual 142, 3) := by decide +kernel
theorem dX2_letGo_32 : decode cX2_letGo 32 = .ok (.invokevirtual 145, 3) := by decide +kernel
theorem dX2_letGo_35 : decode cX2_letGo 35 = .ok (.iinc 2 1, 3) := by decide +kernel
theorem dX2_letGo_38 : decode cX2_letGo 38 = .ok (.goto (-31), 3) := by decide +kernel
theorem dX2_letGo_41 : decode cX2_letGo 41 = .ok (.return_, 1) := by decide +kernel
theorem dX2_callOff_0 : decode cX2_callOff 0 = .ok (.aload_n 1, 1) := by decide +kernel
theorem dX2_callOff_1 : decode cX2_callOff 1 = .ok (.getfield 149, 3) := by decide +kernel
theorem dX2_callOff_4 : decode cX2_callOff 4 = .ok (.istore_n 3, 1) := by decide +kernel
theorem dX2_callOff_5 : decode cX2_callOff 5 = .ok (.aload_n 1, 1) := by decide +kernel
theorem dX2_callOff_6 : decode cX2_callOff 6 = .ok (.iconst 2, 1) := by decide +kernel
theorem dX2_callOff_7 : decode cX2_callOff 7 = .ok (.putfield 66, 3) := by decide +kernel
theorem dX2_callOff_10 : decode cX2_callOff 10 = .ok (.aload_n 1, 1) := by decide +kernel
theorem dX2_callOff_11 : decode cX2_callOff 11 = .ok (.iload_n 2, 1) := by decide +kernel
theorem dX2_callOff_12 : decode cX2_callOff 12 = .ok (.putfield 152, 3) := by decide +kernel
theorem dX2_callOff_15 : decode cX2_callOff 15 = .ok (.aload_n 0, 1) := by decide +kernel
theorem dX2_callOff_16 : decode cX2_callOff 16 = .ok (.aload_n 1, 1) := by decide +kernel
theorem dX2_callOff_17 : decode cX2_callOff 17 = .ok (.iload_n 3, 1) := by decide +kernel
theorem dX2_callOff_18 : decode cX2_callOff 18 = .ok (.invokevirtual 155, 3) := by decide +kernel
theorem dX2_callOff_21 : decode cX2_callOff 21 = .ok (.iload_n 3, 1) := by decide +kernel
theorem dX2_callOff_22 : decode cX2_callOff 22 = .ok (.ireturn, 1) := by decide +kernel
theorem dX2_payBack_0 : decode cX2_payBack 0 = .ok (.aload_n 1, 1) := by decide +kernel
theorem dX2_payBack_1 : decode cX2_payBack 1 = .ok (.dup, 1) := by decide +kernel
theorem dX2_payBack_2 : decode cX2_payBack 2 = .ok (.getfield 149, 3) := by decide +kernel
theorem dX2_payBack_5 : decode cX2_payBack 5 = .ok (.iload_n 2, 1) := by decide +kernel
theorem dX2_payBack_6 : decode cX2_payBack 6 = .ok (.isub, 1) := by decide +kernel
theorem dX2_payBack_7 : decode cX2_payBack 7 = .ok (.putfield 149, 3) := by decide +kernel
theorem dX2_payBack_10 : decode cX2_payBack 10 = .ok (.aload_n 0, 1) := by decide +kernel
theorem dX2_payBack_11 : decode cX2_payBack 11 = .ok (.dup, 1) := by decide +kernel
theorem dX2_payBack_12 : decode cX2_payBack 12 = .ok (.getfield 63, 3) := by decide +kernel
theorem dX2_payBack_15 : decode cX2_payBack 15 = .ok (.iload_n 2, 1) := by decide +kernel
theorem dX2_payBack_16 : decode cX2_payBack 16 = .ok (.iadd, 1) := by decide +kernel
theorem dX2_payBack_17 : decode cX2_payBack 17 = .ok (.putfield 63, 3) := by decide +kernel
theorem dX2_payBack_20 : decode cX2_payBack 20 = .ok (.return_, 1) := by decide +kernel
theorem dX2_toursThatAre_0 : decode cX2_toursThatAre 0 = .ok (.iconst 0, 1) := by decide +kernel
theorem dX2_toursThatAre_1 : decode cX2_toursThatAre 1 = .ok (.istore_n 2, 1) := by decide +kernel
theorem dX2_toursThatAre_2 : decode cX2_toursThatAre 2 = .ok (.iconst 0, 1) := by decide +kernel
theorem dX2_toursThatAre_3 : decode cX2_toursThatAre 3 = .ok (.istore_n 3, 1) := by decide +kernel
theorem dX2_toursThatAre_4 : decode cX2_toursThatAre 4 = .ok (.iload_n 3, 1) := by decide +kernel
theorem dX2_toursThatAre_5 : decode cX2_toursThatAre 5 = .ok (.aload_n 0, 1) := by decide +kernel
theorem dX2_toursThatAre_6 : decode cX2_toursThatAre 6 = .ok (.getfield 43, 3) := by decide +kernel
theorem dX2_toursThatAre_9 : decode cX2_toursThatAre 9 = .ok (.if_icmp .ge 25, 3) := by decide +kernel
theorem dX2_toursThatAre_12 : decode cX2_toursThatAre 12 = .ok (.aload_n 0, 1) := by decide +kernel
theorem dX2_toursThatAre_13 : decode cX2_toursThatAre 13 = .ok (.getfield 24, 3) := by decide +kernel
theorem dX2_toursThatAre_16 : decode cX2_toursThatAre 16 = .ok (.iload_n 3, 1) := by decide +kernel
theorem dX2_toursThatAre_17 : decode cX2_toursThatAre 17 = .ok (.aaload, 1) := by decide +kernel
theorem dX2_toursThatAre_18 : decode cX2_toursThatAre 18 = .ok (.getfield 66, 3) := by decide +kernel
theorem dX2_toursThatAre_21 : decode cX2_toursThatAre 21 = .ok (.iload_n 1, 1) := by decide +kernel
theorem dX2_toursThatAre_22 : decode cX2_toursThatAre 22 = .ok (.if_icmp .ne 6, 3) := by decide +kernel
theorem dX2_toursThatAre_25 : decode cX2_toursThatAre 25 = .ok (.iinc 2 1, 3) := by decide +kernel
theorem dX2_toursThatAre_28 : decode cX2_toursThatAre 28 = .ok (.iinc 3 1, 3) := by decide +kernel
theorem dX2_toursThatAre_31 : decode cX2_toursThatAre 31 = .ok (.goto (-27), 3) := by decide +kernel
theorem dX2_toursThatAre_34 : decode cX2_toursThatAre 34 = .ok (.iload_n 2, 1) := by decide +kernel
theorem dX2_toursThatAre_35 : decode cX2_toursThatAre 35 = .ok (.ireturn, 1) := by decide +kernel
theorem dX2_allPaid_0 : decode cX2_allPaid 0 = .ok (.iconst 0, 1) := by decide +kernel
theorem dX2_allPaid_1 : decode cX2_allPaid 1 = .ok (.istore_n 1, 1) := by decide +kernel
theorem dX2_allPaid_2 : decode cX2_allPaid 2 = .ok (.iconst 0, 1) := by decide +kernel
theorem dX2_allPaid_3 : decode cX2_allPaid 3 = .ok (.istore_n 2, 1) := by decide +kernel
theorem dX2_allPaid_4 : decode cX2_allPaid 4 = .ok (.iload_n 2, 1) := by decide +kernel
theorem dX2_allPaid_5 : decode cX2_allPaid 5 = .ok (.aload_n 0, 1) := by decide +kernel
theorem dX2_allPaid_6 : decode cX2_allPaid 6 = .ok (.getfield 43, 3) := by decide +kernel
theorem dX2_allPaid_9 : decode cX2_allPaid 9 = .ok (.if_icmp .ge 21, 3) := by decide +kernel
theorem dX2_allPaid_12 : decode cX2_allPaid 12 = .ok (.iload_n 1, 1) := by decide +kernel
theorem dX2_allPaid_13 : decode cX2_allPaid 13 = .ok (.aload_n 0, 1) := by decide +kernel
theorem dX2_allPaid_14 : decode cX2_allPaid 14 = .ok (.getfield 24, 3) := by decide +kernel
theorem dX2_allPaid_17 : decode cX2_allPaid 17 = .ok (.iload_n 2, 1) := by decide +kernel
theorem dX2_allPaid_18 : decode cX2_allPaid 18 = .ok (.aaload, 1) := by decide +kernel
theorem dX2_allPaid_19 : decode cX2_allPaid 19 = .ok (.getfield 149, 3) := by decide +kernel
theorem dX2_allPaid_22 : decode cX2_allPaid 22 = .ok (.iadd, 1) := by decide +kernel
theorem dX2_allPaid_23 : decode cX2_allPaid 23 = .ok (.istore_n 1, 1) := by decide +kernel
theorem dX2_allPaid_24 : decode cX2_allPaid 24 = .ok (.iinc 2 1, 3) := by decide +kernel
theorem dX2_allPaid_27 : decode cX2_allPaid 27 = .ok (.goto (-23), 3) := by decide +kernel
theorem dX2_allPaid_30 : decode cX2_allPaid 30 = .ok (.iload_n 1, 1) := by decide +kernel
theorem dX2_allPaid_31 : decode cX2_allPaid 31 = .ok (.ireturn, 1) := by decide +kernel
theorem dX2_guestsGone_0 : decode cX2_guestsGone 0 = .ok (.iconst 0, 1) := by decide +kernel
theorem dX2_guestsGone_1 : decode cX2_guestsGone 1 = .ok (.istore_n 1, 1) := by decide +kernel
theorem dX2_guestsGone_2 : decode cX2_guestsGone 2 = .ok (.iconst 0, 1) := by decide +kernel
theorem dX2_guestsGone_3 : decode cX2_guestsGone 3 = .ok (.istore_n 2, 1) := by decide +kernel
theorem dX2_guestsGone_4 : decode cX2_guestsGone 4 = .ok (.iload_n 2, 1) := by decide +kernel
theorem dX2_guestsGone_5 : decode cX2_guestsGone 5 = .ok (.aload_n 0, 1) := by decide +kernel
theorem dX2_guestsGone_6 : decode cX2_guestsGone 6 = .ok (.getfield 43, 3) := by decide +kernel
theorem dX2_guestsGone_9 : decode cX2_guestsGone 9 = .ok (.if_icmp .ge 34, 3) := by decide +kernel
theorem dX2_guestsGone_12 : decode cX2_guestsGone 12 = .ok (.aload_n 0, 1) := by decide +kernel
theorem dX2_guestsGone_13 : decode cX2_guestsGone 13 = .ok (.getfield 24, 3) := by decide +kernel
theorem dX2_guestsGone_16 : decode cX2_guestsGone 16 = .ok (.iload_n 2, 1) := by decide +kernel
theorem dX2_guestsGone_17 : decode cX2_guestsGone 17 = .ok (.aaload, 1) := by decide +kernel
theorem dX2_guestsGone_18 : decode cX2_guestsGone 18 = .ok (.getfield 66, 3) := by decide +kernel
theorem dX2_guestsGone_21 : decode cX2_guestsGone 21 = .ok (.iconst 1, 1) := by decide +kernel
theorem dX2_guestsGone_22 : decode cX2_guestsGone 22 = .ok (.if_icmp .ne 15, 3) := by decide +kernel
theorem dX2_guestsGone_25 : decode cX2_guestsGone 25 = .ok (.iload_n 1, 1) := by decide +kernel
theorem dX2_guestsGone_26 : decode cX2_guestsGone 26 = .ok (.aload_n 0, 1) := by decide +kernel
theorem dX2_guestsGone_27 : decode cX2_guestsGone 27 = .ok (.getfield 24, 3) := by decide +kernel
theorem dX2_guestsGone_30 : decode cX2_guestsGone 30 = .ok (.iload_n 2, 1) := by decide +kernel
theorem dX2_guestsGone_31 : decode cX2_guestsGone 31 = .ok (.aaload, 1) := by decide +kernel
theorem dX2_guestsGone_32 : decode cX2_guestsGone 32 = .ok (.getfield 87, 3) := by decide +kernel
theorem dX2_guestsGone_35 : decode cX2_guestsGone 35 = .ok (.iadd, 1) := by decide +kernel
theorem dX2_guestsGone_36 : decode cX2_guestsGone 36 = .ok (.istore_n 1, 1) := by decide +kernel
theorem dX2_guestsGone_37 : decode cX2_guestsGone 37 = .ok (.iinc 2 1, 3) := by decide +kernel
theorem dX2_guestsGone_40 : decode cX2_guestsGone 40 = .ok (.goto (-36), 3) := by decide +kernel
theorem dX2_guestsGone_43 : decode cX2_guestsGone 43 = .ok (.iload_n 1, 1) := by decide +kernel
theorem dX2_guestsGone_44 : decode cX2_guestsGone 44 = .ok (.ireturn, 1) := by decide +kernel
theorem dX3_init_0 : decode cX3_init 0 = .ok (.aload_n 0, 1) := by decide +kernel
theorem dX3_init_1 : decode cX3_init 1 = .ok (.invokespecial 3, 3) := by decide +kernel
theorem dX3_init_4 : decode cX3_init 4 = .ok (.aload_n 0, 1) := by decide +kernel
theorem dX3_init_5 : decode cX3_init 5 = .ok (.bipush 40, 2) := by decide +kernel
theorem dX3_init_7 : decode cX3_init 7 = .ok (.newarray .char, 2) := by decide +kernel
theorem dX3_init_9 : decode cX3_init 9 = .ok (.putfield 9, 3) := by decide +kernel
theorem dX3_init_12 : decode cX3_init 12 = .ok (.return_, 1) := by decide +kernel
theorem dX3_append_0 : decode cX3_append 0 = .ok (.aload_n 0, 1) := by decide +kernel
theorem dX3_append_1 : decode cX3_append 1 = .ok (.getfield 15, 3) := by decide +kernel
theorem dX3_append_4 : decode cX3_append 4 = .ok (.bipush 40, 2) := by decide +kernel
theorem dX3_append_6 : decode cX3_append 6 = .ok (.if_icmp .ge 23, 3) := by decide +kernel
theorem dX3_append_9 : decode cX3_append 9 = .ok (.aload_n 0, 1) := by decide +kernel
theorem dX3_append_10 : decode cX3_append 10 = .ok (.getfield 9, 3) := by decide +kernel
theorem dX3_append_13 : decode cX3_append 13 = .ok (.aload_n 0, 1) := by decide +kernel
theorem dX3_append_14 : decode cX3_append 14 = .ok (.getfield 15, 3) := by decide +kernel
theorem dX3_append_17 : decode cX3_append 17 = .ok (.iload_n 1, 1) := by decide +kernel
theorem dX3_append_18 : decode cX3_append 18 = .ok (.castore, 1) := by decide +kernel
theorem dX3_append_19 : decode cX3_append 19 = .ok (.aload_n 0, 1) := by decide +kernel
theorem dX3_append_20 : decode cX3_append 20 = .ok (.dup, 1) := by decide +kernel
theorem dX3_append_21 : decode cX3_append 21 = .ok (.getfield 15, 3) := by decide +kernel
theorem dX3_append_24 : decode cX3_append 24 = .ok (.iconst 1, 1) := by decide +kernel
theorem dX3_append_25 : decode cX3_append 25 = .ok (.iadd, 1) := by decide +kernel
theorem dX3_append_26 : decode cX3_append 26 = .ok (.putfield 15, 3) := by decide +kernel
theorem dX3_append_29 : decode cX3_append 29 = .ok (.return_, 1) := by decide +kernel
theorem dX3_read_0 : decode cX3_read 0 = .ok (.aload_n 0, 1) := by decide +kernel
theorem dX3_read_1 : decode cX3_read 1 = .ok (.invokevirtual 19, 3) := by decide +kernel
theorem dX3_read_4 : decode cX3_read 4 = .ok (.istore_n 1, 1) := by decide +kernel
theorem dX3_read_5 : decode cX3_read 5 = .ok (.aload_n 0, 1) := by decide +kernel
theorem dX3_read_6 : decode cX3_read 6 = .ok (.aload_n 0, 1) := by decide +kernel
theorem dX3_read_7 : decode cX3_read 7 = .ok (.iload_n 1, 1) := by decide +kernel
theorem dX3_read_8 : decode cX3_read 8 = .ok (.invokevirtual 23, 3) := by decide +kernel
theorem dX3_read_11 : decode cX3_read 11 = .ok (.putfield 27, 3) := by decide +kernel
theorem dX3_read_14 : decode cX3_read 14 = .ok (.aload_n 0, 1) := by decide +kernel
theorem dX3_read_15 : decode cX3_read 15 = .ok (.getfield 27, 3) := by decide +kernel
theorem dX3_read_18 : decode cX3_read 18 = .ok (.ifCond .ne 5, 3) := by decide +kernel
theorem dX3_read_21 : decode cX3_read 21 = .ok (.iconst 0, 1) := by decide +kernel
theorem dX3_read_22 : decode cX3_read 22 = .ok (.ireturn, 1) := by decide +kernel
theorem dX3_read_23 : decode cX3_read 23 = .ok (.aload_n 0, 1) := by decide +kernel
theorem dX3_read_24 : decode cX3_read 24 = .ok (.getfield 27, 3) := by decide +kernel
theorem dX3_read_27 : decode cX3_read 27 = .ok (.iconst 4, 1) := by decide +kernel
theorem dX3_read_28 : decode cX3_read 28 = .ok (.if_icmp .ne 7, 3) := by decide +kernel
theorem dX3_read_31 : decode cX3_read 31 = .ok (.iconst 1, 1) := by decide +kernel
theorem dX3_read_32 : decode cX3_read 32 = .ok (.goto 4, 3) := by decide +kernel
theorem dX3_read_35 : decode cX3_read 35 = .ok (.iconst 2, 1) := by decide +kernel
theorem dX3_read_36 : decode cX3_read 36 = .ok (.istore_n 2, 1) := by decide +kernel
theorem dX3_read_37 : decode cX3_read 37 = .ok (.iconst 0, 1) := by decide +kernel
theorem dX3_read_38 : decode cX3_read 38 = .ok (.istore_n 3, 1) := by decide +kernel
theorem dX3_read_39 : decode cX3_read 39 = .ok (.iload_n 3, 1) := by decide +kernel
theorem dX3_read_40 : decode cX3_read 40 = .ok (.iload_n 2, 1) := by decide +kernel
theorem dX3_read_41 : decode cX3_read 41 = .ok (.if_icmp .ge 52, 3) := by decide +kernel
theorem dX3_read_44 : decode cX3_read 44 = .ok (.aload_n 0, 1) := by decide +kernel
theorem dX3_read_45 : decode cX3_read 45 = .ok (.iload_n 1, 1) := by decide +kernel
theorem dX3_read_46 : decode cX3_read 46 = .ok (.invokevirtual 30, 3) := by decide +kernel
theorem dX3_read_49 : decode cX3_read 49 = .ok (.ifCond .ne 5, 3) := by decide +kernel
theorem dX3_read_52 : decode cX3_read 52 = .ok (.iload_n 1, 1) := by decide +kernel
theorem dX3_read_53 : decode cX3_read 53 = .ok (.ireturn, 1) := by decide +kernel
theorem dX3_read_54 : decode cX3_read 54 = .ok (.iinc 1 1, 3) := by decide +kernel
theorem dX3_read_57 : decode cX3_read 57 = .ok (.aload_n 0, 1) := by decide +kernel
theorem dX3_read_58 : decode cX3_read 58 = .ok (.iload_n 1, 1) := by decide +kernel
theorem dX3_read_59 : decode cX3_read 59 = .ok (.invokevirtual 34, 3) := by decide +kernel
theorem dX3_read_62 : decode cX3_read 62 = .ok (.ifCond .ne 5, 3) := by decide +kernel
theorem dX3_read_65 : decode cX3_read 65 = .ok (.iload_n 1, 1) := by decide +kernel
theorem dX3_read_66 : decode cX3_read 66 = .ok (.ireturn, 1) := by decide +kernel
theorem dX3_read_67 : decode cX3_read 67 = .ok (.aload_n 0, 1) := by decide +kernel
theorem dX3_read_68 : decode cX3_read 68 = .ok (.iload_n 1, 1) := by decide +kernel
theorem dX3_read_69 : decode cX3_read 69 = .ok (.invokevirtual 37, 3) := by decide +kernel
theorem dX3_read_72 : decode cX3_read 72 = .ok (.istore 4, 2) := by decide +kernel
theorem dX3_read_74 : decode cX3_read 74 = .ok (.aload_n 0, 1) := by decide +kernel
theorem dX3_read_75 : decode cX3_read 75 = .ok (.iload_n 3, 1) := by decide +kernel
theorem dX3_read_76 : decode cX3_read 76 = .ok (.iload_n 1, 1) := by decide +kernel
theorem dX3_read_77 : decode cX3_read 77 = .ok (.iload 4, 2) := by decide +kernel
theorem dX3_read_79 : decode cX3_read 79 = .ok (.invokevirtual 40, 3) := by decide +kernel
theorem dX3_read_82 : decode cX3_read 82 = .ok (.iload_n 1, 1) := by decide +kernel
theorem dX3_read_83 : decode cX3_read 83 = .ok (.iload 4, 2) := by decide +kernel
theorem dX3_read_85 : decode cX3_read 85 = .ok (.iadd, 1) := by decide +kernel
theorem dX3_read_86 : decode cX3_read 86 = .ok (.istore_n 1, 1) := by decide +kernel
theorem dX3_read_87 : decode cX3_read 87 = .ok (.iinc 3 1, 3) := by decide +kernel
theorem dX3_read_90 : decode cX3_read 90 = .ok (.goto (-51), 3) := by decide +kernel
theorem dX3_read_93 : decode cX3_read 93 = .ok (.iload_n 1, 1) := by decide +kernel
theorem dX3_read_94 : decode cX3_read 94 = .ok (.aload_n 0, 1) := by decide +kernel
theorem dX3_read_95 : decode cX3_read 95 = .ok (.getfield 15, 3) := by decide +kernel
theorem dX3_read_98 : decode cX3_read 98 = .ok (.if_icmp .ge 7, 3) := by decide +kernel
theorem dX3_read_101 : decode cX3_read 101 = .ok (.iload_n 1, 1) := by decide +kernel
theorem dX3_read_102 : decode cX3_read 102 = .ok (.goto 4, 3) := by decide +kernel
theorem dX3_read_105 : decode cX3_read 105 = .ok (.iconst (-1), 1) := by decide +kernel
theorem dX3_read_106 : decode cX3_read 106 = .ok (.ireturn, 1) := by decide +kernel
theorem dX3_wordLength_0 : decode cX3_wordLength 0 = .ok (.iconst 0, 1) := by decide +kernel
theorem dX3_wordLength_1 : decode cX3_wordLength 1 = .ok (.istore_n 1, 1) := by decide +kernel
theorem dX3_wordLength_2 : decode cX3_wordLength 2 = .ok (.iload_n 1, 1) := by decide +kernel
theorem dX3_wordLength_3 : decode cX3_wordLength 3 = .ok (.aload_n 0, 1) := by decide +kernel
theorem dX3_wordLength_4 : decode cX3_wordLength 4 = .ok (.getfield 15, 3) := by decide +kernel
theorem dX3_wordLength_7 : decode cX3_wordLength 7 = .ok (.if_icmp .ge 31, 3) := by decide +kernel
theorem dX3_wordLength_10 : decode cX3_wordLength 10 = .ok (.aload_n 0, 1) := by decide +kernel
theorem dX3_wordLength_11 : decode cX3_wordLength 11 = .ok (.getfield 9, 3) := by decide +kernel
theorem dX3_wordLength_14 : decode cX3_wordLength 14 = .ok (.iload_n 1, 1) := by decide +kernel
theorem dX3_wordLength_15 : decode cX3_wordLength 15 = .ok (.caload, 1) := by decide +kernel
theorem dX3_wordLength_16 : decode cX3_wordLength 16 = .ok (.bipush 97, 2) := by decide +kernel
theorem dX3_wordLength_18 : decode cX3_wordLength 18 = .ok (.if_icmp .lt 20, 3) := by decide +kernel
theorem dX3_wordLength_21 : decode cX3_wordLength 21 = .ok (.aload_n 0, 1) := by decide +kernel
theorem dX3_wordLength_22 : decode cX3_wordLength 22 = .ok (.getfield 9, 3) := by decide +kernel
theorem dX3_wordLength_25 : decode cX3_wordLength 25 = .ok (.iload_n 1, 1) := by decide +kernel
theorem dX3_wordLength_26 : decode cX3_wordLength 26 = .ok (.caload, 1) := by decide +kernel
theorem dX3_wordLength_27 : decode cX3_wordLength 27 = .ok (.bipush 122, 2) := by decide +kernel
theorem dX3_wordLength_29 : decode cX3_wordLength 29 = .ok (.if_icmp .gt 9, 3) := by decide +kernel
theorem dX3_wordLength_32 : decode cX3_wordLength 32 = .ok (.iinc 1 1, 3) := by decide +kernel
theorem dX3_wordLength_35 : decode cX3_wordLength 35 = .ok (.goto (-33), 3) := by decide +kernel
theorem dX3_wordLength_38 : decode cX3_wordLength 38 = .ok (.iload_n 1, 1) := by decide +kernel
theorem dX3_wordLength_39 : decode cX3_wordLength 39 = .ok (.ireturn, 1) := by decide +kernel
theorem dX3_commandOf_0 : decode cX3_commandOf 0 = .ok (.aload_n 0, 1) := by decide +kernel
theorem dX3_commandOf_1 : decode cX3_commandOf 1 = .ok (.ldc 44, 2) := by decide +kernel
theorem dX3_commandOf_3 : decode cX3_commandOf 3 = .ok (.iload_n 1, 1) := by decide +kernel
theorem dX3_commandOf_4 : decode cX3_commandOf 4 = .ok (.invokevirtual 46, 3) := by decide +kernel
theorem dX3_commandOf_7 : decode cX3_commandOf 7 = .ok (.ifCond .eq 5, 3) := by decide +kernel
theorem dX3_commandOf_10 : decode cX3_commandOf 10 = .ok (.iconst 1, 1) := by decide +kernel
theorem dX3_commandOf_11 : decode cX3_commandOf 11 = .ok (.ireturn, 1) := by decide +kernel
theorem dX3_commandOf_12 : decode cX3_commandOf 12 = .ok (.aload_n 0, 1) := by decide +kernel
theorem dX3_commandOf_13 : decode cX3_commandOf 13 = .ok (.ldc 50, 2) := by decide +kernel
theorem dX3_commandOf_15 : decode cX3_commandOf 15 = .ok (.iload_n 1, 1) := by decide +kernel
theorem dX3_commandOf_16 : decode cX3_commandOf 16 = .ok (.invokevirtual 46, 3) := by decide +kernel
theorem dX3_commandOf_19 : decode cX3_commandOf 19 = .ok (.ifCond .eq 5, 3) := by decide +kernel
theorem dX3_commandOf_22 : decode cX3_commandOf 22 = .ok (.iconst 2, 1) := by decide +kernel
theorem dX3_commandOf_23 : decode cX3_commandOf 23 = .ok (.ireturn, 1) := by decide +kernel
theorem dX3_commandOf_24 : decode cX3_commandOf 24 = .ok (.aload_n 0, 1) := by decide +kernel
theorem dX3_commandOf_25 : decode cX3_commandOf 25 = .ok (.ldc 52, 2) := by decide +kernel
theorem dX3_commandOf_27 : decode cX3_commandOf 27 = .ok (.iload_n 1, 1) := by decide +kernel
theorem dX3_commandOf_28 : decode cX3_commandOf 28 = .ok (.invokevirtual 46, 3) := by decide +kernel
theorem dX3_commandOf_31 : decode cX3_commandOf 31 = .ok (.ifCond .eq 5, 3) := by decide +kernel
theorem dX3_commandOf_34 : decode cX3_commandOf 34 = .ok (.iconst 3, 1) := by decide +kernel
theorem dX3_commandOf_35 : decode cX3_commandOf 35 = .ok (.ireturn, 1) := by decide +kernel
theorem dX3_commandOf_36 : decode cX3_commandOf 36 = .ok (.aload_n 0, 1) := by decide +kernel
theorem dX3_commandOf_37 : decode cX3_commandOf 37 = .ok (.ldc 54, 2) := by decide +kernel
theorem dX3_commandOf_39 : decode cX3_commandOf 39 = .ok (.iload_n 1, 1) := by decide +kernel
theorem dX3_commandOf_40 : decode cX3_commandOf 40 = .ok (.invokevirtual 46, 3) := by decide +kernel
theorem dX3_commandOf_43 : decode cX3_commandOf 43 = .ok (.ifCond .eq 5, 3) := by decide +kernel
theorem dX3_commandOf_46 : decode cX3_commandOf 46 = .ok (.iconst 4, 1) := by decide +kernel
theorem dX3_commandOf_47 : decode cX3_commandOf 47 = .ok (.ireturn, 1) := by decide +kernel
theorem dX3_commandOf_48 : decode cX3_commandOf 48 = .ok (.aload_n 0, 1) := by decide +kernel
theorem dX3_commandOf_49 : decode cX3_commandOf 49 = .ok (.ldc 56, 2) := by decide +kernel
theorem dX3_commandOf_51 : decode cX3_commandOf 51 = .ok (.iload_n 1, 1) := by decide +kernel
theorem dX3_commandOf_52 : decode cX3_commandOf 52 = .ok (.invokevirtual 46, 3) := by decide +kernel
theorem dX3_commandOf_55 : decode cX3_commandOf 55 = .ok (.ifCond .eq 7, 3) := by decide +kernel
theorem dX3_commandOf_58 : decode cX3_commandOf 58 = .ok (.iconst 5, 1) := by decide +kernel
theorem dX3_commandOf_59 : decode cX3_commandOf 59 = .ok (.goto 4, 3) := by decide +kernel
theorem dX3_commandOf_62 : decode cX3_commandOf 62 = .ok (.iconst 0, 1) := by decide +kernel
theorem dX3_commandOf_63 : decode cX3_commandOf 63 = .ok (.ireturn, 1) := by decide +kernel
theorem dX3_isWord_0 : decode cX3_isWord 0 = .ok (.iload_n 2, 1) := by decide +kernel
theorem dX3_isWord_1 : decode cX3_isWord 1 = .ok (.aload_n 1, 1) := by decide +kernel
theorem dX3_isWord_2 : decode cX3_isWord 2 = .ok (.invokevirtual 58, 3) := by decide +kernel
theorem dX3_isWord_5 : decode cX3_isWord 5 = .ok (.if_icmp .ne 11, 3) := by decide +kernel
theorem dX3_isWord_8 : decode cX3_isWord 8 = .ok (.iload_n 2, 1) := by decide +kernel
theorem dX3_isWord_9 : decode cX3_isWord 9 = .ok (.aload_n 0, 1) := by decide +kernel
theorem dX3_isWord_10 : decode cX3_isWord 10 = .ok (.getfield 15, 3) := by decide +kernel
theorem dX3_isWord_13 : decode cX3_isWord 13 = .ok (.if_icmp .le 5, 3) := by decide +kernel
theorem dX3_isWord_16 : decode cX3_isWord 16 = .ok (.iconst 0, 1) := by decide +kernel
theorem dX3_isWord_17 : decode cX3_isWord 17 = .ok (.ireturn, 1) := by decide +kernel
theorem dX3_isWord_18 : decode cX3_isWord 18 = .ok (.iconst 0, 1) := by decide +kernel
theorem dX3_isWord_19 : decode cX3_isWord 19 = .ok (.istore_n 3, 1) := by decide +kernel
theorem dX3_isWord_20 : decode cX3_isWord 20 = .ok (.iload_n 3, 1) := by decide +kernel
theorem dX3_isWord_21 : decode cX3_isWord 21 = .ok (.iload_n 2, 1) := by decide +kernel
theorem dX3_isWord_22 : decode cX3_isWord 22 = .ok (.if_icmp .ge 25, 3) := by decide +kernel
theorem dX3_isWord_25 : decode cX3_isWord 25 = .ok (.aload_n 0, 1) := by decide +kernel
theorem dX3_isWord_26 : decode cX3_isWord 26 = .ok (.getfield 9, 3) := by decide +kernel
theorem dX3_isWord_29 : decode cX3_isWord 29 = .ok (.iload_n 3, 1) := by decide +kernel
theorem dX3_isWord_30 : decode cX3_isWord 30 = .ok (.caload, 1) := by decide +kernel
theorem dX3_isWord_31 : decode cX3_isWord 31 = .ok (.aload_n 1, 1) := by decide +kernel
theorem dX3_isWord_32 : decode cX3_isWord 32 = .ok (.iload_n 3, 1) := by decide +kernel
theorem dX3_isWord_33 : decode cX3_isWord 33 = .ok (.invokevirtual 62, 3) := by decide +kernel
theorem dX3_isWord_36 : decode cX3_isWord 36 = .ok (.if_icmp .eq 5, 3) := by decide +kernel
theorem dX3_isWord_39 : decode cX3_isWord 39 = .ok (.iconst 0, 1) := by decide +kernel
theorem dX3_isWord_40 : decode cX3_isWord 40 = .ok (.ireturn, 1) := by decide +kernel
theorem dX3_isWord_41 : decode cX3_isWord 41 = .ok (.iinc 3 1, 3) := by decide +kernel
theorem dX3_isWord_44 : decode cX3_isWord 44 = .ok (.goto (-24), 3) := by decide +kernel
theorem dX3_isWord_47 : decode cX3_isWord 47 = .ok (.iconst 1, 1) := by decide +kernel
theorem dX3_isWord_48 : decode cX3_isWord 48 = .ok (.ireturn, 1) := by decide +kernel
theorem dX3_isBlankAt_0 : decode cX3_isBlankAt 0 = .ok (.iload_n 1, 1) := by decide +kernel
theorem dX3_isBlankAt_1 : decode cX3_isBlankAt 1 = .ok (.aload_n 0, 1) := by decide +kernel
theorem dX3_isBlankAt_2 : decode cX3_isBlankAt 2 = .ok (.getfield 15, 3) := by decide +kernel
theorem dX3_isBlankAt_5 : decode cX3_isBlankAt 5 = .ok (.if_icmp .ge 18, 3) := by decide +kernel
theorem dX3_isBlankAt_8 : decode cX3_isBlankAt 8 = .ok (.aload_n 0, 1) := by decide +kernel
theorem dX3_isBlankAt_9 : decode cX3_isBlankAt 9 = .ok (.getfield 9, 3) := by decide +kernel
theorem dX3_isBlankAt_12 : decode cX3_isBlankAt 12 = .ok (.iload_n 1, 1) := by decide +kernel
theorem dX3_isBlankAt_13 : decode cX3_isBlankAt 13 = .ok (.caload, 1) := by decide +kernel
theorem dX3_isBlankAt_14 : decode cX3_isBlankAt 14 = .ok (.bipush 32, 2) := by decide +kernel
theorem dX3_isBlankAt_16 : decode cX3_isBlankAt 16 = .ok (.if_icmp .ne 7, 3) := by decide +kernel
theorem dX3_isBlankAt_19 : decode cX3_isBlankAt 19 = .ok (.iconst 1, 1) := by decide +kernel
theorem dX3_isBlankAt_20 : decode cX3_isBlankAt 20 = .ok (.goto 4, 3) := by decide +kernel
theorem dX3_isBlankAt_23 : decode cX3_isBlankAt 23 = .ok (.iconst 0, 1) := by decide +kernel
theorem dX3_isBlankAt_24 : decode cX3_isBlankAt 24 = .ok (.ireturn, 1) := by decide +kernel
theorem dX3_isDigitAt_0 : decode cX3_isDigitAt 0 = .ok (.iload_n 1, 1) := by decide +kernel
theorem dX3_isDigitAt_1 : decode cX3_isDigitAt 1 = .ok (.aload_n 0, 1) := by decide +kernel
theorem dX3_isDigitAt_2 : decode cX3_isDigitAt 2 = .ok (.getfield 15, 3) := by decide +kernel
theorem dX3_isDigitAt_5 : decode cX3_isDigitAt 5 = .ok (.if_icmp .ge 29, 3) := by decide +kernel
theorem dX3_isDigitAt_8 : decode cX3_isDigitAt 8 = .ok (.aload_n 0, 1) := by decide +kernel
theorem dX3_isDigitAt_9 : decode cX3_isDigitAt 9 = .ok (.getfield 9, 3) := by decide +kernel
theorem dX3_isDigitAt_12 : decode cX3_isDigitAt 12 = .ok (.iload_n 1, 1) := by decide +kernel
theorem dX3_isDigitAt_13 : decode cX3_isDigitAt 13 = .ok (.caload, 1) := by decide +kernel
theorem dX3_isDigitAt_14 : decode cX3_isDigitAt 14 = .ok (.bipush 48, 2) := by decide +kernel
theorem dX3_isDigitAt_16 : decode cX3_isDigitAt 16 = .ok (.if_icmp .lt 18, 3) := by decide +kernel
theorem dX3_isDigitAt_19 : decode cX3_isDigitAt 19 = .ok (.aload_n 0, 1) := by decide +kernel
theorem dX3_isDigitAt_20 : decode cX3_isDigitAt 20 = .ok (.getfield 9, 3) := by decide +kernel
theorem dX3_isDigitAt_23 : decode cX3_isDigitAt 23 = .ok (.iload_n 1, 1) := by decide +kernel
theorem dX3_isDigitAt_24 : decode cX3_isDigitAt 24 = .ok (.caload, 1) := by decide +kernel
theorem dX3_isDigitAt_25 : decode cX3_isDigitAt 25 = .ok (.bipush 57, 2) := by decide +kernel
theorem dX3_isDigitAt_27 : decode cX3_isDigitAt 27 = .ok (.if_icmp .gt 7, 3) := by decide +kernel
theorem dX3_isDigitAt_30 : decode cX3_isDigitAt 30 = .ok (.iconst 1, 1) := by decide +kernel
theorem dX3_isDigitAt_31 : decode cX3_isDigitAt 31 = .ok (.goto 4, 3) := by decide +kernel
theorem dX3_isDigitAt_34 : decode cX3_isDigitAt 34 = .ok (.iconst 0, 1) := by decide +kernel
theorem dX3_isDigitAt_35 : decode cX3_isDigitAt 35 = .ok (.ireturn, 1) := by decide +kernel
theorem dX3_digitsAt_0 : decode cX3_digitsAt 0 = .ok (.aload_n 0, 1) := by decide +kernel
theorem dX3_digitsAt_1 : decode cX3_digitsAt 1 = .ok (.getfield 9, 3) := by decide +kernel
theorem dX3_digitsAt_4 : decode cX3_digitsAt 4 = .ok (.iload_n 1, 1) := by decide +kernel
theorem dX3_digitsAt_5 : decode cX3_digitsAt 5 = .ok (.caload, 1) := by decide +kernel
theorem dX3_digitsAt_6 : decode cX3_digitsAt 6 = .ok (.bipush 48, 2) := by decide +kernel
theorem dX3_digitsAt_8 : decode cX3_digitsAt 8 = .ok (.if_icmp .eq 17, 3) := by decide +kernel
theorem dX3_digitsAt_11 : decode cX3_digitsAt 11 = .ok (.aload_n 0, 1) := by decide +kernel
theorem dX3_digitsAt_12 : decode cX3_digitsAt 12 = .ok (.iload_n 1, 1) := by decide +kernel
theorem dX3_digitsAt_13 : decode cX3_digitsAt 13 = .ok (.iconst 1, 1) := by decide +kernel
theorem dX3_digitsAt_14 : decode cX3_digitsAt 14 = .ok (.iadd, 1) := by decide +kernel
theorem dX3_digitsAt_15 : decode cX3_digitsAt 15 = .ok (.invokevirtual 34, 3) := by decide +kernel
theorem dX3_digitsAt_18 : decode cX3_digitsAt 18 = .ok (.ifCond .eq 7, 3) := by decide +kernel
theorem dX3_digitsAt_21 : decode cX3_digitsAt 21 = .ok (.iconst 2, 1) := by decide +kernel
theorem dX3_digitsAt_22 : decode cX3_digitsAt 22 = .ok (.goto 4, 3) := by decide +kernel
theorem dX3_digitsAt_25 : decode cX3_digitsAt 25 = .ok (.iconst 1, 1) := by decide +kernel
theorem dX3_digitsAt_26 : decode cX3_digitsAt 26 = .ok (.ireturn, 1) := by decide +kernel
theorem dX3_keepNumber_0 : decode cX3_keepNumber 0 = .ok (.aload_n 0, 1) := by decide +kernel
theorem dX3_keepNumber_1 : decode cX3_keepNumber 1 = .ok (.getfield 9, 3) := by decide +kernel
theorem dX3_keepNumber_4 : decode cX3_keepNumber 4 = .ok (.iload_n 2, 1) := by decide +kernel
theorem dX3_keepNumber_5 : decode cX3_keepNumber 5 = .ok (.caload, 1) := by decide +kernel
theorem dX3_keepNumber_6 : decode cX3_keepNumber 6 = .ok (.bipush 48, 2) := by decide +kernel
theorem dX3_keepNumber_8 : decode cX3_keepNumber 8 = .ok (.isub, 1) := by decide +kernel
theorem dX3_keepNumber_9 : decode cX3_keepNumber 9 = .ok (.istore 4, 2) := by decide +kernel
theorem dX3_keepNumber_11 : decode cX3_keepNumber 11 = .ok (.iload_n 3, 1) := by decide +kernel
theorem dX3_keepNumber_12 : decode cX3_keepNumber 12 = .ok (.iconst 2, 1) := by decide +kernel
theorem dX3_keepNumber_13 : decode cX3_keepNumber 13 = .ok (.if_icmp .ne 22, 3) := by decide +kernel
theorem dX3_keepNumber_16 : decode cX3_keepNumber 16 = .ok (.bipush 10, 2) := by decide +kernel
theorem dX3_keepNumber_18 : decode cX3_keepNumber 18 = .ok (.iload 4, 2) := by decide +kernel
theorem dX3_keepNumber_20 : decode cX3_keepNumber 20 = .ok (.imul, 1) := by decide +kernel
theorem dX3_keepNumber_21 : decode cX3_keepNumber 21 = .ok (.aload_n 0, 1) := by decide +kernel
theorem dX3_keepNumber_22 : decode cX3_keepNumber 22 = .ok (.getfield 9, 3) := by decide +kernel
theorem dX3_keepNumber_25 : decode cX3_keepNumber 25 = .ok (.iload_n 2, 1) := by decide +kernel
theorem dX3_keepNumber_26 : decode cX3_keepNumber 26 = .ok (.iconst 1, 1) := by decide +kernel
theorem dX3_keepNumber_27 : decode cX3_keepNumber 27 = .ok (.iadd, 1) := by decide +kernel
theorem dX3_keepNumber_28 : decode cX3_keepNumber 28 = .ok (.caload, 1) := by decide +kernel
theorem dX3_keepNumber_29 : decode cX3_keepNumber 29 = .ok (.iadd, 1) := by decide +kernel
theorem dX3_keepNumber_30 : decode cX3_keepNumber 30 = .ok (.bipush 48, 2) := by decide +kernel
theorem dX3_keepNumber_32 : decode cX3_keepNumber 32 = .ok (.isub, 1) := by decide +kernel
theorem dX3_keepNumber_33 : decode cX3_keepNumber 33 = .ok (.istore 4, 2) := by decide +kernel
theorem dX3_keepNumber_35 : decode cX3_keepNumber 35 = .ok (.iload_n 1, 1) := by decide +kernel
theorem dX3_keepNumber_36 : decode cX3_keepNumber 36 = .ok (.ifCond .ne 12, 3) := by decide +kernel
theorem dX3_keepNumber_39 : decode cX3_keepNumber 39 = .ok (.aload_n 0, 1) := by decide +kernel
theorem dX3_keepNumber_40 : decode cX3_keepNumber 40 = .ok (.iload 4, 2) := by decide +kernel
theorem dX3_keepNumber_42 : decode cX3_keepNumber 42 = .ok (.putfield 66, 3) := by decide +kernel
theorem dX3_keepNumber_45 : decode cX3_keepNumber 45 = .ok (.goto 9, 3) := by decide +kernel
theorem dX3_keepNumber_48 : decode cX3_keepNumber 48 = .ok (.aload_n 0, 1) := by decide +kernel
theorem dX3_keepNumber_49 : decode cX3_keepNumber 49 = .ok (.iload 4, 2) := by decide +kernel
theorem dX3_keepNumber_51 : decode cX3_keepNumber 51 = .ok (.putfield 69, 3) := by decide +kernel
theorem dX3_keepNumber_54 : decode cX3_keepNumber 54 = .ok (.return_, 1) := by decide +kernel
theorem dX4_init_0 : decode cX4_init 0 = .ok (.aload_n 0, 1) := by decide +kernel
theorem dX4_init_1 : decode cX4_init 1 = .ok (.invokespecial 3, 3) := by decide +kernel
theorem dX4_init_4 : decode cX4_init 4 = .ok (.aload_n 0, 1) := by decide +kernel
theorem dX4_init_5 : decode cX4_init 5 = .ok (.iconst 4, 1) := by decide +kernel
theorem dX4_init_6 : decode cX4_init 6 = .ok (.newarray .int, 2) := by decide +kernel
theorem dX4_init_8 : decode cX4_init 8 = .ok (.putfield 9, 3) := by decide +kernel
theorem dX4_init_11 : decode cX4_init 11 = .ok (.return_, 1) := by decide +kernel
theorem dX4_begin_0 : decode cX4_begin 0 = .ok (.aload_n 0, 1) := by decide +kernel
theorem dX4_begin_1 : decode cX4_begin 1 = .ok (.iload_n 1, 1) := by decide +kernel
theorem dX4_begin_2 : decode cX4_begin 2 = .ok (.putfield 15, 3) := by decide +kernel
theorem dX4_begin_5 : decode cX4_begin 5 = .ok (.aload_n 0, 1) := by decide +kernel
theorem dX4_begin_6 : decode cX4_begin 6 = .ok (.dload_n 2, 1) := by decide +kernel
theorem dX4_begin_7 : decode cX4_begin 7 = .ok (.putfield 19, 3) := by decide +kernel
theorem dX4_begin_10 : decode cX4_begin 10 = .ok (.aload_n 0, 1) := by decide +kernel
theorem dX4_begin_11 : decode cX4_begin 11 = .ok (.dload_n 2, 1) := by decide +kernel
theorem dX4_begin_12 : decode cX4_begin 12 = .ok (.invokestatic 23, 3) := by decide +kernel
theorem dX4_begin_15 : decode cX4_begin 15 = .ok (.putfield 27, 3) := by decide +kernel
theorem dX4_begin_18 : decode cX4_begin 18 = .ok (.aload_n 0, 1) := by decide +kernel
theorem dX4_begin_19 : decode cX4_begin 19 = .ok (.iload 4, 2) := by decide +kernel
theorem dX4_begin_21 : decode cX4_begin 21 = .ok (.putfield 30, 3) := by decide +kernel
theorem dX4_begin_24 : decode cX4_begin 24 = .ok (.aload_n 0, 1) := by decide +kernel
theorem dX4_begin_25 : decode cX4_begin 25 = .ok (.iload 5, 2) := by decide +kernel
theorem dX4_begin_27 : decode cX4_begin 27 = .ok (.putfield 33, 3) := by decide +kernel
theorem dX4_begin_30 : decode cX4_begin 30 = .ok (.aload_n 0, 1) := by decide +kernel
theorem dX4_begin_31 : decode cX4_begin 31 = .ok (.iconst 0, 1) := by decide +kernel
theorem dX4_begin_32 : decode cX4_begin 32 = .ok (.putfield 36, 3) := by decide +kernel
theorem dX4_begin_35 : decode cX4_begin 35 = .ok (.aload_n 0, 1) := by decide +kernel
theorem dX4_begin_36 : decode cX4_begin 36 = .ok (.iconst 0, 1) := by decide +kernel
theorem dX4_begin_37 : decode cX4_begin 37 = .ok (.putfield 39, 3) := by decide +kernel
theorem dX4_begin_40 : decode cX4_begin 40 = .ok (.aload_n 0, 1) := by decide +kernel
theorem dX4_begin_41 : decode cX4_begin 41 = .ok (.iconst 0, 1) := by decide +kernel
theorem dX4_begin_42 : decode cX4_begin 42 = .ok (.putfield 42, 3) := by decide +kernel
theorem dX4_begin_45 : decode cX4_begin 45 = .ok (.aload_n 0, 1) := by decide +kernel
theorem dX4_begin_46 : decode cX4_begin 46 = .ok (.iconst 0, 1) := by decide +kernel
theorem dX4_begin_47 : decode cX4_begin 47 = .ok (.putfield 45, 3) := by decide +kernel
theorem dX4_begin_50 : decode cX4_begin 50 = .ok (.aload_n 0, 1) := by decide +kernel
theorem dX4_begin_51 : decode cX4_begin 51 = .ok (.iconst 0, 1) := by decide +kernel
theorem dX4_begin_52 : decode cX4_begin 52 = .ok (.putfield 48, 3) := by decide +kernel
theorem dX4_begin_55 : decode cX4_begin 55 = .ok (.return_, 1) := by decide +kernel
theorem dX4_copyFrom_0 : decode cX4_copyFrom 0 = .ok (.aload_n 1, 1) := by decide +kernel
theorem dX4_copyFrom_1 : decode cX4_copyFrom 1 = .ok (.getfield 9, 3) := by decide +kernel
theorem dX4_copyFrom_4 : decode cX4_copyFrom 4 = .ok (.iconst 0, 1) := by decide +kernel
theorem dX4_copyFrom_5 : decode cX4_copyFrom 5 = .ok (.aload_n 0, 1) := by decide +kernel
theorem dX4_copyFrom_6 : decode cX4_copyFrom 6 = .ok (.getfield 9, 3) := by decide +kernel
theorem dX4_copyFrom_9 : decode cX4_copyFrom 9 = .ok (.iconst 0, 1) := by decide +kernel
theorem dX4_copyFrom_10 : decode cX4_copyFrom 10 = .ok (.iconst 4, 1) := by decide +kernel
theorem dX4_copyFrom_11 : decode cX4_copyFrom 11 = .ok (.invokestatic 51, 3) := by decide +kernel
theorem dX4_copyFrom_14 : decode cX4_copyFrom 14 = .ok (.aload_n 0, 1) := by decide +kernel
theorem dX4_copyFrom_15 : decode cX4_copyFrom 15 = .ok (.aload_n 1, 1) := by decide +kernel
theorem dX4_copyFrom_16 : decode cX4_copyFrom 16 = .ok (.getfield 15, 3) := by decide +kernel
theorem dX4_copyFrom_19 : decode cX4_copyFrom 19 = .ok (.putfield 15, 3) := by decide +kernel
theorem dX4_copyFrom_22 : decode cX4_copyFrom 22 = .ok (.aload_n 0, 1) := by decide +kernel
theorem dX4_copyFrom_23 : decode cX4_copyFrom 23 = .ok (.aload_n 1, 1) := by decide +kernel
theorem dX4_copyFrom_24 : decode cX4_copyFrom 24 = .ok (.getfield 19, 3) := by decide +kernel
theorem dX4_copyFrom_27 : decode cX4_copyFrom 27 = .ok (.putfield 19, 3) := by decide +kernel
theorem dX4_copyFrom_30 : decode cX4_copyFrom 30 = .ok (.aload_n 0, 1) := by decide +kernel
theorem dX4_copyFrom_31 : decode cX4_copyFrom 31 = .ok (.aload_n 1, 1) := by decide +kernel
theorem dX4_copyFrom_32 : decode cX4_copyFrom 32 = .ok (.getfield 27, 3) := by decide +kernel
theorem dX4_copyFrom_35 : decode cX4_copyFrom 35 = .ok (.putfield 27, 3) := by decide +kernel
theorem dX4_copyFrom_38 : decode cX4_copyFrom 38 = .ok (.aload_n 0, 1) := by decide +kernel
theorem dX4_copyFrom_39 : decode cX4_copyFrom 39 = .ok (.aload_n 1, 1) := by decide +kernel
theorem dX4_copyFrom_40 : decode cX4_copyFrom 40 = .ok (.getfield 30, 3) := by decide +kernel
theorem dX4_copyFrom_43 : decode cX4_copyFrom 43 = .ok (.putfield 30, 3) := by decide +kernel
theorem dX4_copyFrom_46 : decode cX4_copyFrom 46 = .ok (.aload_n 0, 1) := by decide +kernel
theorem dX4_copyFrom_47 : decode cX4_copyFrom 47 = .ok (.aload_n 1, 1) := by decide +kernel
theorem dX4_copyFrom_48 : decode cX4_copyFrom 48 = .ok (.getfield 33, 3) := by decide +kernel
theorem dX4_copyFrom_51 : decode cX4_copyFrom 51 = .ok (.putfield 33, 3) := by decide +kernel
theorem dX4_copyFrom_54 : decode cX4_copyFrom 54 = .ok (.aload_n 0, 1) := by decide +kernel
theorem dX4_copyFrom_55 : decode cX4_copyFrom 55 = .ok (.aload_n 1, 1) := by decide +kernel
theorem dX4_copyFrom_56 : decode cX4_copyFrom 56 = .ok (.getfield 36, 3) := by decide +kernel
theorem dX4_copyFrom_59 : decode cX4_copyFrom 59 = .ok (.putfield 36, 3) := by decide +kernel
theorem dX4_copyFrom_62 : decode cX4_copyFrom 62 = .ok (.aload_n 0, 1) := by decide +kernel
theorem dX4_copyFrom_63 : decode cX4_copyFrom 63 = .ok (.aload_n 1, 1) := by decide +kernel
theorem dX4_copyFrom_64 : decode cX4_copyFrom 64 = .ok (.getfield 39, 3) := by decide +kernel
theorem dX4_copyFrom_67 : decode cX4_copyFrom 67 = .ok (.putfield 39, 3) := by decide +kernel
theorem dX4_copyFrom_70 : decode cX4_copyFrom 70 = .ok (.aload_n 0, 1) := by decide +kernel
theorem dX4_copyFrom_71 : decode cX4_copyFrom 71 = .ok (.aload_n 1, 1) := by decide +kernel
theorem dX4_copyFrom_72 : decode cX4_copyFrom 72 = .ok (.getfield 42, 3) := by decide +kernel
theorem dX4_copyFrom_75 : decode cX4_copyFrom 75 = .ok (.putfield 42, 3) := by decide +kernel
theorem dX4_copyFrom_78 : decode cX4_copyFrom 78 = .ok (.aload_n 0, 1) := by decide +kernel
theorem dX4_copyFrom_79 : decode cX4_copyFrom 79 = .ok (.aload_n 1, 1) := by decide +kernel
theorem dX4_copyFrom_80 : decode cX4_copyFrom 80 = .ok (.getfield 45, 3) := by decide +kernel
theorem dX4_copyFrom_83 : decode cX4_copyFrom 83 = .ok (.putfield 45, 3) := by decide +kernel
theorem dX4_copyFrom_86 : decode cX4_copyFrom 86 = .ok (.aload_n 0, 1) := by decide +kernel
theorem dX4_copyFrom_87 : decode cX4_copyFrom 87 = .ok (.aload_n 1, 1) := by decide +kernel
theorem dX4_copyFrom_88 : decode cX4_copyFrom 88 = .ok (.getfield 48, 3) := by decide +kernel
theorem dX4_copyFrom_91 : decode cX4_copyFrom 91 = .ok (.putfield 48, 3) := by decide +kernel
theorem dX4_copyFrom_94 : decode cX4_copyFrom 94 = .ok (.return_, 1) := by decide +kernel
theorem dX4_baseOf_0 : decode cX4_baseOf 0 = .ok (.dload_n 0, 1) := by decide +kernel
theorem dX4_baseOf_1 : decode cX4_baseOf 1 = .ok (.ldc2_w 57, 3) := by decide +kernel
theorem dX4_baseOf_4 : decode cX4_baseOf 4 = .ok (.dcmp .g, 1) := by decide +kernel
theorem dX4_baseOf_5 : decode cX4_baseOf 5 = .ok (.ifCond .ge 6, 3) := by decide +kernel
theorem dX4_baseOf_8 : decode cX4_baseOf 8 = .ok (.bipush 7, 2) := by decide +kernel
theorem dX4_baseOf_10 : decode cX4_baseOf 10 = .ok (.ireturn, 1) := by decide +kernel
theorem dX4_baseOf_11 : decode cX4_baseOf 11 = .ok (.dload_n 0, 1) := by decide +kernel
theorem dX4_baseOf_12 : decode cX4_baseOf 12 = .ok (.ldc2_w 59, 3) := by decide +kernel
theorem dX4_baseOf_15 : decode cX4_baseOf 15 = .ok (.dcmp .g, 1) := by decide +kernel
theorem dX4_baseOf_16 : decode cX4_baseOf 16 = .ok (.ifCond .ge 5, 3) := by decide +kernel
theorem dX4_baseOf_19 : decode cX4_baseOf 19 = .ok (.iconst 5, 1) := by decide +kernel
theorem dX4_baseOf_20 : decode cX4_baseOf 20 = .ok (.ireturn, 1) := by decide +kernel
theorem dX4_baseOf_21 : decode cX4_baseOf 21 = .ok (.dload_n 0, 1) := by decide +kernel
theorem dX4_baseOf_22 : decode cX4_baseOf 22 = .ok (.ldc2_w 61, 3) := by decide +kernel
theorem dX4_baseOf_25 : decode cX4_baseOf 25 = .ok (.dcmp .g, 1) := by decide +kernel
theorem dX4_baseOf_26 : decode cX4_baseOf 26 = .ok (.ifCond .ge 7, 3) := by decide +kernel
theorem dX4_baseOf_29 : decode cX4_baseOf 29 = .ok (.iconst 3, 1) := by decide +kernel
theorem dX4_baseOf_30 : decode cX4_baseOf 30 = .ok (.goto 4, 3) := by decide +kernel
theorem dX4_baseOf_33 : decode cX4_baseOf 33 = .ok (.iconst 1, 1) := by decide +kernel
theorem dX4_baseOf_34 : decode cX4_baseOf 34 = .ok (.ireturn, 1) := by decide +kernel
theorem dX4_hasInRow_0 : decode cX4_hasInRow 0 = .ok (.iconst 0, 1) := by decide +kernel
theorem dX4_hasInRow_1 : decode cX4_hasInRow 1 = .ok (.istore_n 2, 1) := by decide +kernel
theorem dX4_hasInRow_2 : decode cX4_hasInRow 2 = .ok (.iload_n 2, 1) := by decide +kernel
theorem dX4_hasInRow_3 : decode cX4_hasInRow 3 = .ok (.aload_n 0, 1) := by decide +kernel
theorem dX4_hasInRow_4 : decode cX4_hasInRow 4 = .ok (.getfield 39, 3) := by decide +kernel
theorem dX4_hasInRow_7 : decode cX4_hasInRow 7 = .ok (.if_icmp .ge 21, 3) := by decide +kernel
theorem dX4_hasInRow_10 : decode cX4_hasInRow 10 = .ok (.aload_n 0, 1) := by decide +kernel
theorem dX4_hasInRow_11 : decode cX4_hasInRow 11 = .ok (.getfield 9, 3) := by decide +kernel
theorem dX4_hasInRow_14 : decode cX4_hasInRow 14 = .ok (.iload_n 2, 1) := by decide +kernel
theorem dX4_hasInRow_15 : decode cX4_hasInRow 15 = .ok (.iaload, 1) := by decide +kernel
theorem dX4_hasInRow_16 : decode cX4_hasInRow 16 = .ok (.iload_n 1, 1) := by decide +kernel
theorem dX4_hasInRow_17 : decode cX4_hasInRow 17 = .ok (.if_icmp .ne 5, 3) := by decide +kernel
theorem dX4_hasInRow_20 : decode cX4_hasInRow 20 = .ok (.iconst 1, 1) := by decide +kernel
theorem dX4_hasInRow_21 : decode cX4_hasInRow 21 = .ok (.ireturn, 1) := by decide +kernel
theorem dX4_hasInRow_22 : decode cX4_hasInRow 22 = .ok (.iinc 2 1, 3) := by decide +kernel
theorem dX4_hasInRow_25 : decode cX4_hasInRow 25 = .ok (.goto (-23), 3) := by decide +kernel
theorem dX4_hasInRow_28 : decode cX4_hasInRow 28 = .ok (.iconst 0, 1) := by decide +kernel
theorem dX4_hasInRow_29 : decode cX4_hasInRow 29 = .ok (.ireturn, 1) := by decide +kernel
theorem dX4_addToRow_0 : decode cX4_addToRow 0 = .ok (.aload_n 0, 1) := by decide +kernel
theorem dX4_addToRow_1 : decode cX4_addToRow 1 = .ok (.getfield 39, 3) := by decide +kernel
theorem dX4_addToRow_4 : decode cX4_addToRow 4 = .ok (.iconst 4, 1) := by decide +kernel
theorem dX4_addToRow_5 : decode cX4_addToRow 5 = .ok (.if_icmp .ge 23, 3) := by decide +kernel
theorem dX4_addToRow_8 : decode cX4_addToRow 8 = .ok (.aload_n 0, 1) := by decide +kernel
theorem dX4_addToRow_9 : decode cX4_addToRow 9 = .ok (.getfield 9, 3) := by decide +kernel
theorem dX4_addToRow_12 : decode cX4_addToRow 12 = .ok (.aload_n 0, 1) := by decide +kernel
theorem dX4_addToRow_13 : decode cX4_addToRow 13 = .ok (.getfield 39, 3) := by decide +kernel
theorem dX4_addToRow_16 : decode cX4_addToRow 16 = .ok (.iload_n 1, 1) := by decide +kernel
theorem dX4_addToRow_17 : decode cX4_addToRow 17 = .ok (.iastore, 1) := by decide +kernel
theorem dX4_addToRow_18 : decode cX4_addToRow 18 = .ok (.aload_n 0, 1) := by decide +kernel
theorem dX4_addToRow_19 : decode cX4_addToRow 19 = .ok (.dup, 1) := by decide +kernel
theorem dX4_addToRow_20 : decode cX4_addToRow 20 = .ok (.getfield 39, 3) := by decide +kernel
theorem dX4_addToRow_23 : decode cX4_addToRow 23 = .ok (.iconst 1, 1) := by decide +kernel
theorem dX4_addToRow_24 : decode cX4_addToRow 24 = .ok (.iadd, 1) := by decide +kernel
theorem dX4_addToRow_25 : decode cX4_addToRow 25 = .ok (.putfield 39, 3) := by decide +kernel
theorem dX4_addToRow_28 : decode cX4_addToRow 28 = .ok (.return_, 1) := by decide +kernel
theorem dX4_takeFromRow_0 : decode cX4_takeFromRow 0 = .ok (.iconst 0, 1) := by decide +kernel
theorem dX4_takeFromRow_1 : decode cX4_takeFromRow 1 = .ok (.istore_n 2, 1) := by decide +kernel
theorem dX4_takeFromRow_2 : decode cX4_takeFromRow 2 = .ok (.iconst 0, 1) := by decide +kernel
theorem dX4_takeFromRow_3 : decode cX4_takeFromRow 3 = .ok (.istore_n 3, 1) := by decide +kernel
theorem dX4_takeFromRow_4 : decode cX4_takeFromRow 4 = .ok (.iload_n 3, 1) := by decide +kernel
theorem dX4_takeFromRow_5 : decode cX4_takeFromRow 5 = .ok (.aload_n 0, 1) := by decide +kernel
theorem dX4_takeFromRow_6 : decode cX4_takeFromRow 6 = .ok (.getfield 39, 3) := by decide +kernel
theorem dX4_takeFromRow_9 : decode cX4_takeFromRow 9 = .ok (.if_icmp .ge 34, 3) := by decide +kernel
theorem dX4_takeFromRow_12 : decode cX4_takeFromRow 12 = .ok (.aload_n 0, 1) := by decide +kernel
theorem dX4_takeFromRow_13 : decode cX4_takeFromRow 13 = .ok (.getfield 9, 3) := by decide +kernel
theorem dX4_takeFromRow_16 : decode cX4_takeFromRow 16 = .ok (.iload_n 3, 1) := by decide +kernel
theorem dX4_takeFromRow_17 : decode cX4_takeFromRow 17 = .ok (.iaload, 1) := by decide +kernel
theorem dX4_takeFromRow_18 : decode cX4_takeFromRow 18 = .ok (.iload_n 1, 1) := by decide +kernel
theorem dX4_takeFromRow_19 : decode cX4_takeFromRow 19 = .ok (.if_icmp .eq 18, 3) := by decide +kernel
theorem dX4_takeFromRow_22 : decode cX4_takeFromRow 22 = .ok (.aload_n 0, 1) := by decide +kernel
theorem dX4_takeFromRow_23 : decode cX4_takeFromRow 23 = .ok (.getfield 9, 3) := by decide +kernel
theorem dX4_takeFromRow_26 : decode cX4_takeFromRow 26 = .ok (.iload_n 2, 1) := by decide +kernel
theorem dX4_takeFromRow_27 : decode cX4_takeFromRow 27 = .ok (.aload_n 0, 1) := by decide +kernel
theorem dX4_takeFromRow_28 : decode cX4_takeFromRow 28 = .ok (.getfield 9, 3) := by decide +kernel
theorem dX4_takeFromRow_31 : decode cX4_takeFromRow 31 = .ok (.iload_n 3, 1) := by decide +kernel
theorem dX4_takeFromRow_32 : decode cX4_takeFromRow 32 = .ok (.iaload, 1) := by decide +kernel
theorem dX4_takeFromRow_33 : decode cX4_takeFromRow 33 = .ok (.iastore, 1) := by decide +kernel
theorem dX4_takeFromRow_34 : decode cX4_takeFromRow 34 = .ok (.iinc 2 1, 3) := by decide +kernel
theorem dX4_takeFromRow_37 : decode cX4_takeFromRow 37 = .ok (.iinc 3 1, 3) := by decide +kernel
theorem dX4_takeFromRow_40 : decode cX4_takeFromRow 40 = .ok (.goto (-36), 3) := by decide +kernel
theorem dX4_takeFromRow_43 : decode cX4_takeFromRow 43 = .ok (.aload_n 0, 1) := by decide +kernel
theorem dX4_takeFromRow_44 : decode cX4_takeFromRow 44 = .ok (.iload_n 2, 1) := by decide +kernel
theorem dX4_takeFromRow_45 : decode cX4_takeFromRow 45 = .ok (.putfield 39, 3) := by decide +kernel
theorem dX4_takeFromRow_48 : decode cX4_takeFromRow 48 = .ok (.return_, 1) := by decide +kernel
theorem dX4_refundFor_0 : decode cX4_refundFor 0 = .ok (.aload_n 0, 1) := by decide +kernel
theorem dX4_refundFor_1 : decode cX4_refundFor 1 = .ok (.getfield 36, 3) := by decide +kernel
theorem dX4_refundFor_4 : decode cX4_refundFor 4 = .ok (.ifCond .gt 5, 3) := by decide +kernel
theorem dX4_refundFor_7 : decode cX4_refundFor 7 = .ok (.iconst 0, 1) := by decide +kernel
theorem dX4_refundFor_8 : decode cX4_refundFor 8 = .ok (.ireturn, 1) := by decide +kernel
theorem dX4_refundFor_9 : decode cX4_refundFor 9 = .ok (.aload_n 0, 1) := by decide +kernel
theorem dX4_refundFor_10 : decode cX4_refundFor 10 = .ok (.getfield 42, 3) := by decide +kernel
theorem dX4_refundFor_13 : decode cX4_refundFor 13 = .ok (.i2d, 1) := by decide +kernel
theorem dX4_refundFor_14 : decode cX4_refundFor 14 = .ok (.aload_n 0, 1) := by decide +kernel
theorem dX4_refundFor_15 : decode cX4_refundFor 15 = .ok (.getfield 36, 3) := by decide +kernel
theorem dX4_refundFor_18 : decode cX4_refundFor 18 = .ok (.i2d, 1) := by decide +kernel
theorem dX4_refundFor_19 : decode cX4_refundFor 19 = .ok (.ddiv, 1) := by decide +kernel
theorem dX4_refundFor_20 : decode cX4_refundFor 20 = .ok (.iload_n 1, 1) := by decide +kernel
theorem dX4_refundFor_21 : decode cX4_refundFor 21 = .ok (.i2d, 1) := by decide +kernel
theorem dX4_refundFor_22 : decode cX4_refundFor 22 = .ok (.dmul, 1) := by decide +kernel
theorem dX4_refundFor_23 : decode cX4_refundFor 23 = .ok (.aload_n 0, 1) := by decide +kernel
theorem dX4_refundFor_24 : decode cX4_refundFor 24 = .ok (.getfield 15, 3) := by decide +kernel
theorem dX4_refundFor_27 : decode cX4_refundFor 27 = .ok (.iload_n 2, 1) := by decide +kernel
theorem dX4_refundFor_28 : decode cX4_refundFor 28 = .ok (.isub, 1) := by decide +kernel
theorem dX4_refundFor_29 : decode cX4_refundFor 29 = .ok (.invokestatic 63, 3) := by decide +kernel
theorem dX4_refundFor_32 : decode cX4_refundFor 32 = .ok (.dmul, 1) := by decide +kernel
theorem dX4_refundFor_33 : decode cX4_refundFor 33 = .ok (.d2i, 1) := by decide +kernel
theorem dX4_refundFor_34 : decode cX4_refundFor 34 = .ok (.ireturn, 1) := by decide +kernel
theorem dX4_shareAt_0 : decode cX4_shareAt 0 = .ok (.iload_n 0, 1) := by decide +kernel
theorem dX4_shareAt_1 : decode cX4_shareAt 1 = .ok (.bipush 14, 2) := by decide +kernel
theorem dX4_shareAt_3 : decode cX4_shareAt 3 = .ok (.if_icmp .lt 5, 3) := by decide +kernel
theorem dX4_shareAt_6 : decode cX4_shareAt 6 = .ok (.dconst 1, 1) := by decide +kernel
theorem dX4_shareAt_7 : decode cX4_shareAt 7 = .ok (.dreturn, 1) := by decide +kernel
theorem dX4_shareAt_8 : decode cX4_shareAt 8 = .ok (.iload_n 0, 1) := by decide +kernel
theorem dX4_shareAt_9 : decode cX4_shareAt 9 = .ok (.bipush 7, 2) := by decide +kernel
theorem dX4_shareAt_11 : decode cX4_shareAt 11 = .ok (.if_icmp .lt 7, 3) := by decide +kernel
theorem dX4_shareAt_14 : decode cX4_shareAt 14 = .ok (.ldc2_w 67, 3) := by decide +kernel
theorem dX4_shareAt_17 : decode cX4_shareAt 17 = .ok (.dreturn, 1) := by decide +kernel
theorem dX4_shareAt_18 : decode cX4_shareAt 18 = .ok (.iload_n 0, 1) := by decide +kernel
theorem dX4_shareAt_19 : decode cX4_shareAt 19 = .ok (.iconst 3, 1) := by decide +kernel
theorem dX4_shareAt_20 : decode cX4_shareAt 20 = .ok (.if_icmp .lt 9, 3) := by decide +kernel
theorem dX4_shareAt_23 : decode cX4_shareAt 23 = .ok (.ldc2_w 69, 3) := by decide +kernel
theorem dX4_shareAt_26 : decode cX4_shareAt 26 = .ok (.goto 4, 3) := by decide +kernel
theorem dX4_shareAt_29 : decode cX4_shareAt 29 = .ok (.dconst 0, 1) := by decide +kernel
theorem dX4_shareAt_30 : decode cX4_shareAt 30 = .ok (.dreturn, 1) := by decide +kernel
theorem dX4_fitsInto_0 : decode cX4_fitsInto 0 = .ok (.aload_n 0, 1) := by decide +kernel
theorem dX4_fitsInto_1 : decode cX4_fitsInto 1 = .ok (.getfield 45, 3) := by decide +kernel
theorem dX4_fitsInto_4 : decode cX4_fitsInto 4 = .ok (.ifCond .ne 65, 3) := by decide +kernel
theorem dX4_fitsInto_7 : decode cX4_fitsInto 7 = .ok (.aload_n 1, 1) := by decide +kernel
theorem dX4_fitsInto_8 : decode cX4_fitsInto 8 = .ok (.getfield 45, 3) := by decide +kernel
theorem dX4_fitsInto_11 : decode cX4_fitsInto 11 = .ok (.ifCond .ne 58, 3) := by decide +kernel
theorem dX4_fitsInto_14 : decode cX4_fitsInto 14 = .ok (.aload_n 0, 1) := by decide +kernel
theorem dX4_fitsInto_15 : decode cX4_fitsInto 15 = .ok (.getfield 15, 3) := by decide +kernel
theorem dX4_fitsInto_18 : decode cX4_fitsInto 18 = .ok (.aload_n 1, 1) := by decide +kernel
theorem dX4_fitsInto_19 : decode cX4_fitsInto 19 = .ok (.getfield 15, 3) := by decide +kernel
theorem dX4_fitsInto_22 : decode cX4_fitsInto 22 = .ok (.if_icmp .ne 47, 3) := by decide +kernel
theorem dX4_fitsInto_25 : decode cX4_fitsInto 25 = .ok (.aload_n 1, 1) := by decide +kernel
theorem dX4_fitsInto_26 : decode cX4_fitsInto 26 = .ok (.getfield 19, 3) := by decide +kernel
theorem dX4_fitsInto_29 : decode cX4_fitsInto 29 = .ok (.aload_n 0, 1) := by decide +kernel
theorem dX4_fitsInto_30 : decode cX4_fitsInto 30 = .ok (.getfield 19, 3) := by decide +kernel
theorem dX4_fitsInto_33 : decode cX4_fitsInto 33 = .ok (.dcmp .g, 1) := by decide +kernel
theorem dX4_fitsInto_34 : decode cX4_fitsInto 34 = .ok (.ifCond .gt 35, 3) := by decide +kernel
theorem dX4_fitsInto_37 : decode cX4_fitsInto 37 = .ok (.aload_n 1, 1) := by decide +kernel
theorem dX4_fitsInto_38 : decode cX4_fitsInto 38 = .ok (.getfield 33, 3) := by decide +kernel
theorem dX4_fitsInto_41 : decode cX4_fitsInto 41 = .ok (.aload_n 0, 1) := by decide +kernel
theorem dX4_fitsInto_42 : decode cX4_fitsInto 42 = .ok (.getfield 33, 3) := by decide +kernel
theorem dX4_fitsInto_45 : decode cX4_fitsInto 45 = .ok (.iconst (-1), 1) := by decide +kernel
theorem dX4_fitsInto_46 : decode cX4_fitsInto 46 = .ok (.ixor, 1) := by decide +kernel
theorem dX4_fitsInto_47 : decode cX4_fitsInto 47 = .ok (.iand, 1) := by decide +kernel
theorem dX4_fitsInto_48 : decode cX4_fitsInto 48 = .ok (.ifCond .ne 21, 3) := by decide +kernel
theorem dX4_fitsInto_51 : decode cX4_fitsInto 51 = .ok (.aload_n 0, 1) := by decide +kernel
theorem dX4_fitsInto_52 : decode cX4_fitsInto 52 = .ok (.getfield 36, 3) := by decide +kernel
theorem dX4_fitsInto_55 : decode cX4_fitsInto 55 = .ok (.aload_n 1, 1) := by decide +kernel
theorem dX4_fitsInto_56 : decode cX4_fitsInto 56 = .ok (.getfield 36, 3) := by decide +kernel
theorem dX4_fitsInto_59 : decode cX4_fitsInto 59 = .ok (.iadd, 1) := by decide +kernel
theorem dX4_fitsInto_60 : decode cX4_fitsInto 60 = .ok (.bipush 12, 2) := by decide +kernel
theorem dX4_fitsInto_62 : decode cX4_fitsInto 62 = .ok (.if_icmp .gt 7, 3) := by decide +kernel
theorem dX4_fitsInto_65 : decode cX4_fitsInto 65 = .ok (.iconst 1, 1) := by decide +kernel
theorem dX4_fitsInto_66 : decode cX4_fitsInto 66 = .ok (.goto 4, 3) := by decide +kernel
theorem dX4_fitsInto_69 : decode cX4_fitsInto 69 = .ok (.iconst 0, 1) := by decide +kernel
theorem dX4_fitsInto_70 : decode cX4_fitsInto 70 = .ok (.ireturn, 1) := by decide +kernel
theorem dX4_moveInto_0 : decode cX4_moveInto 0 = .ok (.aload_n 1, 1) := by decide +kernel
theorem dX4_moveInto_1 : decode cX4_moveInto 1 = .ok (.dup, 1) := by decide +kernel
theorem dX4_moveInto_2 : decode cX4_moveInto 2 = .ok (.getfield 36, 3) := by decide +kernel
theorem dX4_moveInto_5 : decode cX4_moveInto 5 = .ok (.aload_n 0, 1) := by decide +kernel
theorem dX4_moveInto_6 : decode cX4_moveInto 6 = .ok (.getfield 36, 3) := by decide +kernel
theorem dX4_moveInto_9 : decode cX4_moveInto 9 = .ok (.iadd, 1) := by decide +kernel
theorem dX4_moveInto_10 : decode cX4_moveInto 10 = .ok (.putfield 36, 3) := by decide +kernel
theorem dX4_moveInto_13 : decode cX4_moveInto 13 = .ok (.aload_n 1, 1) := by decide +kernel
theorem dX4_moveInto_14 : decode cX4_moveInto 14 = .ok (.dup, 1) := by decide +kernel
theorem dX4_moveInto_15 : decode cX4_moveInto 15 = .ok (.getfield 42, 3) := by decide +kernel
theorem dX4_moveInto_18 : decode cX4_moveInto 18 = .ok (.aload_n 0, 1) := by decide +kernel
theorem dX4_moveInto_19 : decode cX4_moveInto 19 = .ok (.getfield 42, 3) := by decide +kernel
theorem dX4_moveInto_22 : decode cX4_moveInto 22 = .ok (.iadd, 1) := by decide +kernel
theorem dX4_moveInto_23 : decode cX4_moveInto 23 = .ok (.putfield 42, 3) := by decide +kernel
theorem dX4_moveInto_26 : decode cX4_moveInto 26 = .ok (.iconst 0, 1) := by decide +kernel
theorem dX4_moveInto_27 : decode cX4_moveInto 27 = .ok (.istore_n 2, 1) := by decide +kernel
theorem dX4_moveInto_28 : decode cX4_moveInto 28 = .ok (.iload_n 2, 1) := by decide +kernel
theorem dX4_moveInto_29 : decode cX4_moveInto 29 = .ok (.aload_n 0, 1) := by decide +kernel
theorem dX4_moveInto_30 : decode cX4_moveInto 30 = .ok (.getfield 39, 3) := by decide +kernel
theorem dX4_moveInto_33 : decode cX4_moveInto 33 = .ok (.if_icmp .ge 19, 3) := by decide +kernel
theorem dX4_moveInto_36 : decode cX4_moveInto 36 = .ok (.aload_n 1, 1) := by decide +kernel
theorem dX4_moveInto_37 : decode cX4_moveInto 37 = .ok (.aload_n 0, 1) := by decide +kernel
theorem dX4_moveInto_38 : decode cX4_moveInto 38 = .ok (.getfield 9, 3) := by decide +kernel
theorem dX4_moveInto_41 : decode cX4_moveInto 41 = .ok (.iload_n 2, 1) := by decide +kernel
theorem dX4_moveInto_42 : decode cX4_moveInto 42 = .ok (.iaload, 1) := by decide +kernel
theorem dX4_moveInto_43 : decode cX4_moveInto 43 = .ok (.invokevirtual 71, 3) := by decide +kernel
theorem dX4_moveInto_46 : decode cX4_moveInto 46 = .ok (.iinc 2 1, 3) := by decide +kernel
theorem dX4_moveInto_49 : decode cX4_moveInto 49 = .ok (.goto (-21), 3) := by decide +kernel
theorem dX4_moveInto_52 : decode cX4_moveInto 52 = .ok (.aload_n 0, 1) := by decide +kernel
theorem dX4_moveInto_53 : decode cX4_moveInto 53 = .ok (.iconst 0, 1) := by decide +kernel
theorem dX4_moveInto_54 : decode cX4_moveInto 54 = .ok (.putfield 36, 3) := by decide +kernel
theorem dX4_moveInto_57 : decode cX4_moveInto 57 = .ok (.aload_n 0, 1) := by decide +kernel
theorem dX4_moveInto_58 : decode cX4_moveInto 58 = .ok (.iconst 0, 1) := by decide +kernel
theorem dX4_moveInto_59 : decode cX4_moveInto 59 = .ok (.putfield 39, 3) := by decide +kernel
theorem dX4_moveInto_62 : decode cX4_moveInto 62 = .ok (.aload_n 0, 1) := by decide +kernel
theorem dX4_moveInto_63 : decode cX4_moveInto 63 = .ok (.iconst 0, 1) := by decide +kernel
theorem dX4_moveInto_64 : decode cX4_moveInto 64 = .ok (.putfield 42, 3) := by decide +kernel
theorem dX4_moveInto_67 : decode cX4_moveInto 67 = .ok (.aload_n 0, 1) := by decide +kernel
theorem dX4_moveInto_68 : decode cX4_moveInto 68 = .ok (.iconst 3, 1) := by decide +kernel
theorem dX4_moveInto_69 : decode cX4_moveInto 69 = .ok (.putfield 45, 3) := by decide +kernel
theorem dX4_moveInto_72 : decode cX4_moveInto 72 = .ok (.return_, 1) := by decide +kernel
theorem dX5_init_0 : decode cX5_init 0 = .ok (.aload_n 0, 1) := by decide +kernel
theorem dX5_init_1 : decode cX5_init 1 = .ok (.invokespecial 1, 3) := by decide +kernel
theorem dX5_init_4 : decode cX5_init 4 = .ok (.aload_n 0, 1) := by decide +kernel
theorem dX5_init_5 : decode cX5_init 5 = .ok (.new 7, 3) := by decide +kernel
theorem dX5_init_8 : decode cX5_init 8 = .ok (.dup, 1) := by decide +kernel
theorem dX5_init_9 : decode cX5_init 9 = .ok (.invokespecial 9, 3) := by decide +kernel
theorem dX5_init_12 : decode cX5_init 12 = .ok (.putfield 10, 3) := by decide +kernel
theorem dX5_init_15 : decode cX5_init 15 = .ok (.aload_n 0, 1) := by decide +kernel
theorem dX5_init_16 : decode cX5_init 16 = .ok (.new 7, 3) := by decide +kernel
theorem dX5_init_19 : decode cX5_init 19 = .ok (.dup, 1) := by decide +kernel
theorem dX5_init_20 : decode cX5_init 20 = .ok (.invokespecial 9, 3) := by decide +kernel
theorem dX5_init_23 : decode cX5_init 23 = .ok (.putfield 16, 3) := by decide +kernel
theorem dX5_init_26 : decode cX5_init 26 = .ok (.aload_n 0, 1) := by decide +kernel
theorem dX5_init_27 : decode cX5_init 27 = .ok (.new 19, 3) := by decide +kernel
theorem dX5_init_30 : decode cX5_init 30 = .ok (.dup, 1) := by decide +kernel
theorem dX5_init_31 : decode cX5_init 31 = .ok (.invokespecial 21, 3) := by decide +kernel
theorem dX5_init_34 : decode cX5_init 34 = .ok (.putfield 22, 3) := by decide +kernel
theorem dX5_init_37 : decode cX5_init 37 = .ok (.aload_n 0, 1) := by decide +kernel
theorem dX5_init_38 : decode cX5_init 38 = .ok (.new 26, 3) := by decide +kernel
theorem dX5_init_41 : decode cX5_init 41 = .ok (.dup, 1) := by decide +kernel
theorem dX5_init_42 : decode cX5_init 42 = .ok (.invokespecial 28, 3) := by decide +kernel
theorem dX5_init_45 : decode cX5_init 45 = .ok (.putfield 29, 3) := by decide +kernel
theorem dX5_init_48 : decode cX5_init 48 = .ok (.return_, 1) := by decide +kernel
theorem dX5_addGuide_0 : decode cX5_addGuide 0 = .ok (.iload_n 1, 1) := by decide +kernel
theorem dX5_addGuide_1 : decode cX5_addGuide 1 = .ok (.invokestatic 33, 3) := by decide +kernel
theorem dX5_addGuide_4 : decode cX5_addGuide 4 = .ok (.ifCond .eq 10, 3) := by decide +kernel
theorem dX5_addGuide_7 : decode cX5_addGuide 7 = .ok (.iload_n 2, 1) := by decide +kernel
theorem dX5_addGuide_8 : decode cX5_addGuide 8 = .ok (.invokestatic 37, 3) := by decide +kernel
theorem dX5_addGuide_11 : decode cX5_addGuide 11 = .ok (.ifCond .ne 6, 3) := by decide +kernel
theorem dX5_addGuide_14 : decode cX5_addGuide 14 = .ok (.bipush (-2), 2) := by decide +kernel
theorem dX5_addGuide_16 : decode cX5_addGuide 16 = .ok (.ireturn, 1) := by decide +kernel
theorem dX5_addGuide_17 : decode cX5_addGuide 17 = .ok (.aload_n 0, 1) := by decide +kernel
theorem dX5_addGuide_18 : decode cX5_addGuide 18 = .ok (.getfield 10, 3) := by decide +kernel
theorem dX5_addGuide_21 : decode cX5_addGuide 21 = .ok (.getfield 40, 3) := by decide +kernel
theorem dX5_addGuide_24 : decode cX5_addGuide 24 = .ok (.bipush 8, 2) := by decide +kernel
theorem dX5_addGuide_26 : decode cX5_addGuide 26 = .ok (.if_icmp .lt 6, 3) := by decide +kernel
theorem dX5_addGuide_29 : decode cX5_addGuide 29 = .ok (.bipush (-3), 2) := by decide +kernel
theorem dX5_addGuide_31 : decode cX5_addGuide 31 = .ok (.ireturn, 1) := by decide +kernel
theorem dX5_addGuide_32 : decode cX5_addGuide 32 = .ok (.aload_n 0, 1) := by decide +kernel
theorem dX5_addGuide_33 : decode cX5_addGuide 33 = .ok (.getfield 22, 3) := by decide +kernel
theorem dX5_addGuide_36 : decode cX5_addGuide 36 = .ok (.aload_n 0, 1) := by decide +kernel
theorem dX5_addGuide_37 : decode cX5_addGuide 37 = .ok (.getfield 10, 3) := by decide +kernel
theorem dX5_addGuide_40 : decode cX5_addGuide 40 = .ok (.invokevirtual 44, 3) := by decide +kernel
theorem dX5_addGuide_43 : decode cX5_addGuide 43 = .ok (.aload_n 0, 1) := by decide +kernel
theorem dX5_addGuide_44 : decode cX5_addGuide 44 = .ok (.getfield 10, 3) := by decide +kernel
theorem dX5_addGuide_47 : decode cX5_addGuide 47 = .ok (.getfield 40, 3) := by decide +kernel
theorem dX5_addGuide_50 : decode cX5_addGuide 50 = .ok (.istore_n 3, 1) := by decide +kernel
theorem dX5_addGuide_51 : decode cX5_addGuide 51 = .ok (.aload_n 0, 1) := by decide +kernel
theorem dX5_addGuide_52 : decode cX5_addGuide 52 = .ok (.getfield 10, 3) := by decide +kernel
theorem dX5_addGuide_55 : decode cX5_addGuide 55 = .ok (.getfield 48, 3) := by decide +kernel
theorem dX5_addGuide_58 : decode cX5_addGuide 58 = .ok (.iload_n 3, 1) := by decide +kernel
theorem dX5_addGuide_59 : decode cX5_addGuide 59 = .ok (.aaload, 1) := by decide +kernel
theorem dX5_addGuide_60 : decode cX5_addGuide 60 = .ok (.iload_n 1, 1) := by decide +kernel
theorem dX5_addGuide_61 : decode cX5_addGuide 61 = .ok (.iload_n 2, 1) := by decide +kernel
theorem dX5_addGuide_62 : decode cX5_addGuide 62 = .ok (.invokevirtual 52, 3) := by decide +kernel
theorem dX5_addGuide_65 : decode cX5_addGuide 65 = .ok (.aload_n 0, 1) := by decide +kernel
theorem dX5_addGuide_66 : decode cX5_addGuide 66 = .ok (.getfield 10, 3) := by decide +kernel
theorem dX5_addGuide_69 : decode cX5_addGuide 69 = .ok (.dup, 1) := by decide +kernel
theorem dX5_addGuide_70 : decode cX5_addGuide 70 = .ok (.getfield 40, 3) := by decide +kernel
theorem dX5_addGuide_73 : decode cX5_addGuide 73 = .ok (.iconst 1, 1) := by decide +kernel
theorem dX5_addGuide_74 : decode cX5_addGuide 74 = .ok (.iadd, 1) := by decide +kernel
theorem dX5_addGuide_75 : decode cX5_addGuide 75 = .ok (.putfield 40, 3) := by decide +kernel
theorem dX5_addGuide_78 : decode cX5_addGuide 78 = .ok (.iload_n 3, 1) := by decide +kernel
theorem dX5_addGuide_79 : decode cX5_addGuide 79 = .ok (.ireturn, 1) := by decide +kernel
theorem dX5_renew_0 : decode cX5_renew 0 = .ok (.aload_n 0, 1) := by decide +kernel
theorem dX5_renew_1 : decode cX5_renew 1 = .ok (.getfield 10, 3) := by decide +kernel
theorem dX5_renew_4 : decode cX5_renew 4 = .ok (.iload_n 1, 1) := by decide +kernel
theorem dX5_renew_5 : decode cX5_renew 5 = .ok (.invokevirtual 58, 3) := by decide +kernel
theorem dX5_renew_8 : decode cX5_renew 8 = .ok (.astore 4, 2) := by decide +kernel
theorem dX5_renew_10 : decode cX5_renew 10 = .ok (.aload 4, 2) := by decide +kernel
theorem dX5_renew_12 : decode cX5_renew 12 = .ok (.ifnonnull 5, 3) := by decide +kernel
theorem dX5_renew_15 : decode cX5_renew 15 = .ok (.iconst (-1), 1) := by decide +kernel
theorem dX5_renew_16 : decode cX5_renew 16 = .ok (.ireturn, 1) := by decide +kernel
theorem dX5_renew_17 : decode cX5_renew 17 = .ok (.iload_n 2, 1) := by decide +kernel
theorem dX5_renew_18 : decode cX5_renew 18 = .ok (.invokestatic 33, 3) := by decide +kernel
theorem dX5_renew_21 : decode cX5_renew 21 = .ok (.ifCond .eq 10, 3) := by decide +kernel
theorem dX5_renew_24 : decode cX5_renew 24 = .ok (.iload_n 3, 1) := by decide +kernel
theorem dX5_renew_25 : decode cX5_renew 25 = .ok (.invokestatic 37, 3) := by decide +kernel
theorem dX5_renew_28 : decode cX5_renew 28 = .ok (.ifCond .ne 6, 3) := by decide +kernel
theorem dX5_renew_31 : decode cX5_renew 31 = .ok (.bipush (-2), 2) := by decide +kernel
theorem dX5_renew_33 : decode cX5_renew 33 = .ok (.ireturn, 1) := by decide +kernel
theorem dX5_renew_34 : decode cX5_renew 34 = .ok (.aload 4, 2) := by decide +kernel
theorem dX5_renew_36 : decode cX5_renew 36 = .ok (.getfield 62, 3) := by decide +kernel
theorem dX5_renew_39 : decode cX5_renew 39 = .ok (.iload_n 2, 1) := by decide +kernel
theorem dX5_renew_40 : decode cX5_renew 40 = .ok (.if_icmp .ne 15, 3) := by decide +kernel
theorem dX5_renew_43 : decode cX5_renew 43 = .ok (.aload 4, 2) := by decide +kernel
theorem dX5_renew_45 : decode cX5_renew 45 = .ok (.getfield 65, 3) := by decide +kernel
theorem dX5_renew_48 : decode cX5_renew 48 = .ok (.iload_n 3, 1) := by decide +kernel
theorem dX5_renew_49 : decode cX5_renew 49 = .ok (.if_icmp .ne 6, 3) := by decide +kernel
theorem dX5_renew_52 : decode cX5_renew 52 = .ok (.bipush (-5), 2) := by decide +kernel
theorem dX5_renew_54 : decode cX5_renew 54 = .ok (.ireturn, 1) := by decide +kernel
theorem dX5_renew_55 : decode cX5_renew 55 = .ok (.aload_n 0, 1) := by decide +kernel
theorem dX5_renew_56 : decode cX5_renew 56 = .ok (.getfield 22, 3) := by decide +kernel
theorem dX5_renew_59 : decode cX5_renew 59 = .ok (.aload_n 0, 1) := by decide +kernel
theorem dX5_renew_60 : decode cX5_renew 60 = .ok (.getfield 10, 3) := by decide +kernel
theorem dX5_renew_63 : decode cX5_renew 63 = .ok (.invokevirtual 44, 3) := by decide +kernel
theorem dX5_renew_66 : decode cX5_renew 66 = .ok (.aload 4, 2) := by decide +kernel
theorem dX5_renew_68 : decode cX5_renew 68 = .ok (.getfield 65, 3) := by decide +kernel
theorem dX5_renew_71 : decode cX5_renew 71 = .ok (.istore 5, 2) := by decide +kernel
theorem dX5_renew_73 : decode cX5_renew 73 = .ok (.aload 4, 2) := by decide +kernel
theorem dX5_renew_75 : decode cX5_renew 75 = .ok (.iload_n 2, 1) := by decide +kernel
theorem dX5_renew_76 : decode cX5_renew 76 = .ok (.iload_n 3, 1) := by decide +kernel
theorem dX5_renew_77 : decode cX5_renew 77 = .ok (.invokevirtual 68, 3) := by decide +kernel
theorem dX5_renew_80 : decode cX5_renew 80 = .ok (.iload 5, 2) := by decide +kernel
theorem dX5_renew_82 : decode cX5_renew 82 = .ok (.ireturn, 1) := by decide +kernel
theorem dX5_addBridge_0 : decode cX5_addBridge 0 = .ok (.ldc2_w 71, 3) := by decide +kernel
theorem dX5_addBridge_3 : decode cX5_addBridge 3 = .ok (.lload_n 1, 1) := by decide +kernel
theorem dX5_addBridge_4 : decode cX5_addBridge 4 = .ok (.invokestatic 73, 3) := by decide +kernel
theorem dX5_addBridge_7 : decode cX5_addBridge 7 = .ok (.ifCond .ne 6, 3) := by decide +kernel
theorem dX5_addBridge_10 : decode cX5_addBridge 10 = .ok (.bipush (-2), 2) := by decide +kernel
theorem dX5_addBridge_12 : decode cX5_addBridge 12 = .ok (.ireturn, 1) := by decide +kernel
theorem dX5_addBridge_13 : decode cX5_addBridge 13 = .ok (.aload_n 0, 1) := by decide +kernel
theorem dX5_addBridge_14 : decode cX5_addBridge 14 = .ok (.getfield 10, 3) := by decide +kernel
theorem dX5_addBridge_17 : decode cX5_addBridge 17 = .ok (.getfield 77, 3) := by decide +kernel
theorem dX5_addBridge_20 : decode cX5_addBridge 20 = .ok (.bipush 6, 2) := by decide +kernel
theorem dX5_addBridge_22 : decode cX5_addBridge 22 = .ok (.if_icmp .lt 6, 3) := by decide +kernel
theorem dX5_addBridge_25 : decode cX5_addBridge 25 = .ok (.bipush (-3), 2) := by decide +kernel
theorem dX5_addBridge_27 : decode cX5_addBridge 27 = .ok (.ireturn, 1) := by decide +kernel
theorem dX5_addBridge_28 : decode cX5_addBridge 28 = .ok (.aload_n 0, 1) := by decide +kernel
theorem dX5_addBridge_29 : decode cX5_addBridge 29 = .ok (.getfield 22, 3) := by decide +kernel
theorem dX5_addBridge_32 : decode cX5_addBridge 32 = .ok (.aload_n 0, 1) := by decide +kernel
theorem dX5_addBridge_33 : decode cX5_addBridge 33 = .ok (.getfield 10, 3) := by decide +kernel
theorem dX5_addBridge_36 : decode cX5_addBridge 36 = .ok (.invokevirtual 44, 3) := by decide +kernel
theorem dX5_addBridge_39 : decode cX5_addBridge 39 = .ok (.aload_n 0, 1) := by decide +kernel
theorem dX5_addBridge_40 : decode cX5_addBridge 40 = .ok (.getfield 10, 3) := by decide +kernel
theorem dX5_addBridge_43 : decode cX5_addBridge 43 = .ok (.getfield 77, 3) := by decide +kernel
theorem dX5_addBridge_46 : decode cX5_addBridge 46 = .ok (.istore_n 3, 1) := by decide +kernel
theorem dX5_addBridge_47 : decode cX5_addBridge 47 = .ok (.aload_n 0, 1) := by decide +kernel
theorem dX5_addBridge_48 : decode cX5_addBridge 48 = .ok (.getfield 10, 3) := by decide +kernel
theorem dX5_addBridge_51 : decode cX5_addBridge 51 = .ok (.getfield 80, 3) := by decide +kernel
theorem dX5_addBridge_54 : decode cX5_addBridge 54 = .ok (.iload_n 3, 1) := by decide +kernel
theorem dX5_addBridge_55 : decode cX5_addBridge 55 = .ok (.lload_n 1, 1) := by decide +kernel
theorem dX5_addBridge_56 : decode cX5_addBridge 56 = .ok (.invokestatic 84, 3) := by decide +kernel
theorem dX5_addBridge_59 : decode cX5_addBridge 59 = .ok (.dastore, 1) := by decide +kernel
theorem dX5_addBridge_60 : decode cX5_addBridge 60 = .ok (.aload_n 0, 1) := by decide +kernel
theorem dX5_addBridge_61 : decode cX5_addBridge 61 = .ok (.getfield 10, 3) := by decide +kernel
theorem dX5_addBridge_64 : decode cX5_addBridge 64 = .ok (.dup, 1) := by decide +kernel
theorem dX5_addBridge_65 : decode cX5_addBridge 65 = .ok (.getfield 77, 3) := by decide +kernel
theorem dX5_addBridge_68 : decode cX5_addBridge 68 = .ok (.iconst 1, 1) := by decide +kernel
theorem dX5_addBridge_69 : decode cX5_addBridge 69 = .ok (.iadd, 1) := by decide +kernel
theorem dX5_addBridge_70 : decode cX5_addBridge 70 = .ok (.putfield 77, 3) := by decide +kernel
theorem dX5_addBridge_73 : decode cX5_addBridge 73 = .ok (.iload_n 3, 1) := by decide +kernel
theorem dX5_addBridge_74 : decode cX5_addBridge 74 = .ok (.ireturn, 1) := by decide +kernel
theorem dX5_setTemperature_0 : decode cX5_setTemperature 0 = .ok (.lload_n 1, 1) := by decide +kernel
theorem dX5_setTemperature_1 : decode cX5_setTemperature 1 = .ok (.invokestatic 88, 3) := by decide +kernel
theorem dX5_setTemperature_4 : decode cX5_setTemperature 4 = .ok (.ifCond .ne 6, 3) := by decide +kernel
theorem dX5_setTemperature_7 : decode cX5_setTemperature 7 = .ok (.bipush (-2), 2) := by decide +kernel
theorem dX5_setTemperature_9 : decode cX5_setTemperature 9 = .ok (.ireturn, 1) := by decide +kernel
theorem dX5_setTemperature_10 : decode cX5_setTemperature 10 = .ok (.lload_n 1, 1) := by decide +kernel
theorem dX5_setTemperature_11 : decode cX5_setTemperature 11 = .ok (.invokestatic 84, 3) := by decide +kernel
theorem dX5_setTemperature_14 : decode cX5_setTemperature 14 = .ok (.dstore_n 3, 1) := by decide +kernel
theorem dX5_setTemperature_15 : decode cX5_setTemperature 15 = .ok (.dload_n 3, 1) := by decide +kernel
theorem dX5_setTemperature_16 : decode cX5_setTemperature 16 = .ok (.aload_n 0, 1) := by decide +kernel
theorem dX5_setTemperature_17 : decode cX5_setTemperature 17 = .ok (.getfield 10, 3) := by decide +kernel
theorem dX5_setTemperature_20 : decode cX5_setTemperature 20 = .ok (.getfield 92, 3) := by decide +kernel
theorem dX5_setTemperature_23 : decode cX5_setTemperature 23 = .ok (.dcmp .l, 1) := by decide +kernel
theorem dX5_setTemperature_24 : decode cX5_setTemperature 24 = .ok (.ifCond .ne 6, 3) := by decide +kernel
theorem dX5_setTemperature_27 : decode cX5_setTemperature 27 = .ok (.bipush (-5), 2) := by decide +kernel
theorem dX5_setTemperature_29 : decode cX5_setTemperature 29 = .ok (.ireturn, 1) := by decide +kernel
theorem dX5_setTemperature_30 : decode cX5_setTemperature 30 = .ok (.aload_n 0, 1) := by decide +kernel
theorem dX5_setTemperature_31 : decode cX5_setTemperature 31 = .ok (.getfield 22, 3) := by decide +kernel
theorem dX5_setTemperature_34 : decode cX5_setTemperature 34 = .ok (.aload_n 0, 1) := by decide +kernel
theorem dX5_setTemperature_35 : decode cX5_setTemperature 35 = .ok (.getfield 10, 3) := by decide +kernel
theorem dX5_setTemperature_38 : decode cX5_setTemperature 38 = .ok (.invokevirtual 44, 3) := by decide +kernel
theorem dX5_setTemperature_41 : decode cX5_setTemperature 41 = .ok (.aload_n 0, 1) := by decide +kernel
theorem dX5_setTemperature_42 : decode cX5_setTemperature 42 = .ok (.getfield 10, 3) := by decide +kernel
theorem dX5_setTemperature_45 : decode cX5_setTemperature 45 = .ok (.dload_n 3, 1) := by decide +kernel
theorem dX5_setTemperature_46 : decode cX5_setTemperature 46 = .ok (.putfield 92, 3) := by decide +kernel
theorem dX5_setTemperature_49 : decode cX5_setTemperature 49 = .ok (.aload_n 0, 1) := by decide +kernel
theorem dX5_setTemperature_50 : decode cX5_setTemperature 50 = .ok (.getfield 10, 3) := by decide +kernel
theorem dX5_setTemperature_53 : decode cX5_setTemperature 53 = .ok (.lload_n 1, 1) := by decide +kernel
theorem dX5_setTemperature_54 : decode cX5_setTemperature 54 = .ok (.putfield 96, 3) := by decide +kernel
theorem dX5_setTemperature_57 : decode cX5_setTemperature 57 = .ok (.iconst 1, 1) := by decide +kernel
theorem dX5_setTemperature_58 : decode cX5_setTemperature 58 = .ok (.ireturn, 1) := by decide +kernel
theorem dX5_addTour_0 : decode cX5_addTour 0 = .ok (.iload_n 1, 1) := by decide +kernel
theorem dX5_addTour_1 : decode cX5_addTour 1 = .ok (.aload_n 0, 1) := by decide +kernel
theorem dX5_addTour_2 : decode cX5_addTour 2 = .ok (.getfield 10, 3) := by decide +kernel
theorem dX5_addTour_5 : decode cX5_addTour 5 = .ok (.getfield 100, 3) := by decide +kernel
theorem dX5_addTour_8 : decode cX5_addTour 8 = .ok (.if_icmp .lt 20, 3) := by decide +kernel
theorem dX5_addTour_11 : decode cX5_addTour 11 = .ok (.iload_n 1, 1) := by decide +kernel
theorem dX5_addTour_12 : decode cX5_addTour 12 = .ok (.sipush 999, 3) := by decide +kernel
theorem dX5_addTour_15 : decode cX5_addTour 15 = .ok (.if_icmp .gt 13, 3) := by decide +kernel
theorem dX5_addTour_18 : decode cX5_addTour 18 = .ok (.ldc2_w 103, 3) := by decide +kernel
theorem dX5_addTour_21 : decode cX5_addTour 21 = .ok (.lload_n 2, 1) := by decide +kernel
theorem dX5_addTour_22 : decode cX5_addTour 22 = .ok (.invokestatic 73, 3) := by decide +kernel
theorem dX5_addTour_25 : decode cX5_addTour 25 = .ok (.ifCond .ne 6, 3) := by decide +kernel
theorem dX5_addTour_28 : decode cX5_addTour 28 = .ok (.bipush (-2), 2) := by decide +kernel
theorem dX5_addTour_30 : decode cX5_addTour 30 = .ok (.ireturn, 1) := by decide +kernel
theorem dX5_addTour_31 : decode cX5_addTour 31 = .ok (.iload 4, 2) := by decide +kernel
theorem dX5_addTour_33 : decode cX5_addTour 33 = .ok (.iconst 1, 1) := by decide +kernel
theorem dX5_addTour_34 : decode cX5_addTour 34 = .ok (.if_icmp .lt 23, 3) := by decide +kernel
theorem dX5_addTour_37 : decode cX5_addTour 37 = .ok (.iload 4, 2) := by decide +kernel
theorem dX5_addTour_39 : decode cX5_addTour 39 = .ok (.sipush 9999, 3) := by decide +kernel
theorem dX5_addTour_42 : decode cX5_addTour 42 = .ok (.if_icmp .gt 15, 3) := by decide +kernel
theorem dX5_addTour_45 : decode cX5_addTour 45 = .ok (.aload_n 0, 1) := by decide +kernel
theorem dX5_addTour_46 : decode cX5_addTour 46 = .ok (.getfield 10, 3) := by decide +kernel
theorem dX5_addTour_49 : decode cX5_addTour 49 = .ok (.iload 5, 2) := by decide +kernel
theorem dX5_addTour_51 : decode cX5_addTour 51 = .ok (.invokevirtual 105, 3) := by decide +kernel
theorem dX5_addTour_54 : decode cX5_addTour 54 = .ok (.ifCond .ne 6, 3) := by decide +kernel
theorem dX5_addTour_57 : decode cX5_addTour 57 = .ok (.bipush (-2), 2) := by decide +kernel
theorem dX5_addTour_59 : decode cX5_addTour 59 = .ok (.ireturn, 1) := by decide +kernel
theorem dX5_addTour_60 : decode cX5_addTour 60 = .ok (.aload_n 0, 1) := by decide +kernel
theorem dX5_addTour_61 : decode cX5_addTour 61 = .ok (.getfield 10, 3) := by decide +kernel
theorem dX5_addTour_64 : decode cX5_addTour 64 = .ok (.getfield 108, 3) := by decide +kernel
theorem dX5_addTour_67 : decode cX5_addTour 67 = .ok (.bipush 10, 2) := by decide +kernel
theorem dX5_addTour_69 : decode cX5_addTour 69 = .ok (.if_icmp .lt 6, 3) := by decide +kernel
theorem dX5_addTour_72 : decode cX5_addTour 72 = .ok (.bipush (-3), 2) := by decide +kernel
theorem dX5_addTour_74 : decode cX5_addTour 74 = .ok (.ireturn, 1) := by decide +kernel
theorem dX5_addTour_75 : decode cX5_addTour 75 = .ok (.aload_n 0, 1) := by decide +kernel
theorem dX5_addTour_76 : decode cX5_addTour 76 = .ok (.getfield 22, 3) := by decide +kernel
theorem dX5_addTour_79 : decode cX5_addTour 79 = .ok (.aload_n 0, 1) := by decide +kernel
theorem dX5_addTour_80 : decode cX5_addTour 80 = .ok (.getfield 10, 3) := by decide +kernel
theorem dX5_addTour_83 : decode cX5_addTour 83 = .ok (.invokevirtual 44, 3) := by decide +kernel
theorem dX5_addTour_86 : decode cX5_addTour 86 = .ok (.aload_n 0, 1) := by decide +kernel
theorem dX5_addTour_87 : decode cX5_addTour 87 = .ok (.getfield 10, 3) := by decide +kernel
theorem dX5_addTour_90 : decode cX5_addTour 90 = .ok (.getfield 108, 3) := by decide +kernel
theorem dX5_addTour_93 : decode cX5_addTour 93 = .ok (.istore 6, 2) := by decide +kernel
theorem dX5_addTour_95 : decode cX5_addTour 95 = .ok (.aload_n 0, 1) := by decide +kernel
theorem dX5_addTour_96 : decode cX5_addTour 96 = .ok (.getfield 10, 3) := by decide +kernel
theorem dX5_addTour_99 : decode cX5_addTour 99 = .ok (.getfield 111, 3) := by decide +kernel
theorem dX5_addTour_102 : decode cX5_addTour 102 = .ok (.iload 6, 2) := by decide +kernel
theorem dX5_addTour_104 : decode cX5_addTour 104 = .ok (.aaload, 1) := by decide +kernel
theorem dX5_addTour_105 : decode cX5_addTour 105 = .ok (.iload_n 1, 1) := by decide +kernel
theorem dX5_addTour_106 : decode cX5_addTour 106 = .ok (.lload_n 2, 1) := by decide +kernel
theorem dX5_addTour_107 : decode cX5_addTour 107 = .ok (.invokestatic 84, 3) := by decide +kernel
theorem dX5_addTour_110 : decode cX5_addTour 110 = .ok (.iload 4, 2) := by decide +kernel
theorem dX5_addTour_112 : decode cX5_addTour 112 = .ok (.iload 5, 2) := by decide +kernel
theorem dX5_addTour_114 : decode cX5_addTour 114 = .ok (.invokevirtual 115, 3) := by decide +kernel
theorem dX5_addTour_117 : decode cX5_addTour 117 = .ok (.aload_n 0, 1) := by decide +kernel
theorem dX5_addTour_118 : decode cX5_addTour 118 = .ok (.getfield 10, 3) := by decide +kernel
theorem dX5_addTour_121 : decode cX5_addTour 121 = .ok (.dup, 1) := by decide +kernel
theorem dX5_addTour_122 : decode cX5_addTour 122 = .ok (.getfield 108, 3) := by decide +kernel
theorem dX5_addTour_125 : decode cX5_addTour 125 = .ok (.iconst 1, 1) := by decide +kernel
theorem dX5_addTour_126 : decode cX5_addTour 126 = .ok (.iadd, 1) := by decide +kernel
theorem dX5_addTour_127 : decode cX5_addTour 127 = .ok (.putfield 108, 3) := by decide +kernel
theorem dX5_addTour_130 : decode cX5_addTour 130 = .ok (.iload 6, 2) := by decide +kernel
theorem dX5_addTour_132 : decode cX5_addTour 132 = .ok (.ireturn, 1) := by decide +kernel
theorem dX5_book_0 : decode cX5_book 0 = .ok (.aload_n 0, 1) := by decide +kernel
theorem dX5_book_1 : decode cX5_book 1 = .ok (.getfield 10, 3) := by decide +kernel
theorem dX5_book_4 : decode cX5_book 4 = .ok (.iload_n 1, 1) := by decide +kernel
theorem dX5_book_5 : decode cX5_book 5 = .ok (.invokevirtual 120, 3) := by decide +kernel
theorem dX5_book_8 : decode cX5_book 8 = .ok (.astore_n 3, 1) := by decide +kernel
theorem dX5_book_9 : decode cX5_book 9 = .ok (.aload_n 3, 1) := by decide +kernel
theorem dX5_book_10 : decode cX5_book 10 = .ok (.ifnonnull 5, 3) := by decide +kernel
theorem dX5_book_13 : decode cX5_book 13 = .ok (.iconst (-1), 1) := by decide +kernel
theorem dX5_book_14 : decode cX5_book 14 = .ok (.ireturn, 1) := by decide +kernel
theorem dX5_book_15 : decode cX5_book 15 = .ok (.iload_n 2, 1) := by decide +kernel
theorem dX5_book_16 : decode cX5_book 16 = .ok (.invokestatic 124, 3) := by decide +kernel
theorem dX5_book_19 : decode cX5_book 19 = .ok (.ifCond .ne 6, 3) := by decide +kernel
theorem dX5_book_22 : decode cX5_book 22 = .ok (.bipush (-2), 2) := by decide +kernel
theorem dX5_book_24 : decode cX5_book 24 = .ok (.ireturn, 1) := by decide +kernel
theorem dX5_book_25 : decode cX5_book 25 = .ok (.aload_n 3, 1) := by decide +kernel
theorem dX5_book_26 : decode cX5_book 26 = .ok (.getfield 127, 3) := by decide +kernel
theorem dX5_book_29 : decode cX5_book 29 = .ok (.ifCond .eq 6, 3) := by decide +kernel
theorem dX5_book_32 : decode cX5_book 32 = .ok (.bipush (-4), 2) := by decide +kernel
theorem dX5_book_34 : decode cX5_book 34 = .ok (.ireturn, 1) := by decide +kernel
theorem dX5_book_35 : decode cX5_book 35 = .ok (.aload_n 3, 1) := by decide +kernel
theorem dX5_book_36 : decode cX5_book 36 = .ok (.getfield 130, 3) := by decide +kernel
theorem dX5_book_39 : decode cX5_book 39 = .ok (.iload_n 2, 1) := by decide +kernel
theorem dX5_book_40 : decode cX5_book 40 = .ok (.iadd, 1) := by decide +kernel
theorem dX5_book_41 : decode cX5_book 41 = .ok (.bipush 12, 2) := by decide +kernel
theorem dX5_book_43 : decode cX5_book 43 = .ok (.if_icmp .le 6, 3) := by decide +kernel
theorem dX5_book_46 : decode cX5_book 46 = .ok (.bipush (-3), 2) := by decide +kernel
theorem dX5_book_48 : decode cX5_book 48 = .ok (.ireturn, 1) := by decide +kernel
theorem dX5_book_49 : decode cX5_book 49 = .ok (.aload_n 0, 1) := by decide +kernel
theorem dX5_book_50 : decode cX5_book 50 = .ok (.getfield 22, 3) := by decide +kernel
theorem dX5_book_53 : decode cX5_book 53 = .ok (.aload_n 0, 1) := by decide +kernel
theorem dX5_book_54 : decode cX5_book 54 = .ok (.getfield 10, 3) := by decide +kernel
theorem dX5_book_57 : decode cX5_book 57 = .ok (.invokevirtual 44, 3) := by decide +kernel
theorem dX5_book_60 : decode cX5_book 60 = .ok (.aload_n 3, 1) := by decide +kernel
theorem dX5_book_61 : decode cX5_book 61 = .ok (.getfield 133, 3) := by decide +kernel
theorem dX5_book_64 : decode cX5_book 64 = .ok (.iload_n 2, 1) := by decide +kernel
theorem dX5_book_65 : decode cX5_book 65 = .ok (.imul, 1) := by decide +kernel
theorem dX5_book_66 : decode cX5_book 66 = .ok (.istore 4, 2) := by decide +kernel
theorem dX5_book_68 : decode cX5_book 68 = .ok (.aload_n 3, 1) := by decide +kernel
theorem dX5_book_69 : decode cX5_book 69 = .ok (.dup, 1) := by decide +kernel
theorem dX5_book_70 : decode cX5_book 70 = .ok (.getfield 130, 3) := by decide +kernel
theorem dX5_book_73 : decode cX5_book 73 = .ok (.iload_n 2, 1) := by decide +kernel
theorem dX5_book_74 : decode cX5_book 74 = .ok (.iadd, 1) := by decide +kernel
theorem dX5_book_75 : decode cX5_book 75 = .ok (.putfield 130, 3) := by decide +kernel
theorem dX5_book_78 : decode cX5_book 78 = .ok (.aload_n 3, 1) := by decide +kernel
theorem dX5_book_79 : decode cX5_book 79 = .ok (.dup, 1) := by decide +kernel
theorem dX5_book_80 : decode cX5_book 80 = .ok (.getfield 136, 3) := by decide +kernel
theorem dX5_book_83 : decode cX5_book 83 = .ok (.iload 4, 2) := by decide +kernel
theorem dX5_book_85 : decode cX5_book 85 = .ok (.iadd, 1) := by decide +kernel
theorem dX5_book_86 : decode cX5_book 86 = .ok (.putfield 136, 3) := by decide +kernel
theorem dX5_book_89 : decode cX5_book 89 = .ok (.iload 4, 2) := by decide +kernel
theorem dX5_book_91 : decode cX5_book 91 = .ok (.ireturn, 1) := by decide +kernel
theorem dX5_leave_0 : decode cX5_leave 0 = .ok (.aload_n 0, 1) := by decide +kernel
theorem dX5_leave_1 : decode cX5_leave 1 = .ok (.getfield 10, 3) := by decide +kernel
theorem dX5_leave_4 : decode cX5_leave 4 = .ok (.iload_n 1, 1) := by decide +kernel
theorem dX5_leave_5 : decode cX5_leave 5 = .ok (.invokevirtual 120, 3) := by decide +kernel
theorem dX5_leave_8 : decode cX5_leave 8 = .ok (.astore_n 3, 1) := by decide +kernel
theorem dX5_leave_9 : decode cX5_leave 9 = .ok (.aload_n 3, 1) := by decide +kernel
theorem dX5_leave_10 : decode cX5_leave 10 = .ok (.ifnonnull 5, 3) := by decide +kernel
theorem dX5_leave_13 : decode cX5_leave 13 = .ok (.iconst (-1), 1) := by decide +kernel
theorem dX5_leave_14 : decode cX5_leave 14 = .ok (.ireturn, 1) := by decide +kernel
theorem dX5_leave_15 : decode cX5_leave 15 = .ok (.iload_n 2, 1) := by decide +kernel
theorem dX5_leave_16 : decode cX5_leave 16 = .ok (.invokestatic 124, 3) := by decide +kernel
theorem dX5_leave_19 : decode cX5_leave 19 = .ok (.ifCond .ne 6, 3) := by decide +kernel
theorem dX5_leave_22 : decode cX5_leave 22 = .ok (.bipush (-2), 2) := by decide +kernel
theorem dX5_leave_24 : decode cX5_leave 24 = .ok (.ireturn, 1) := by decide +kernel
theorem dX5_leave_25 : decode cX5_leave 25 = .ok (.aload_n 3, 1) := by decide +kernel
theorem dX5_leave_26 : decode cX5_leave 26 = .ok (.getfield 127, 3) := by decide +kernel
theorem dX5_leave_29 : decode cX5_leave 29 = .ok (.ifCond .ne 11, 3) := by decide +kernel
theorem dX5_leave_32 : decode cX5_leave 32 = .ok (.aload_n 3, 1) := by decide +kernel
theorem dX5_leave_33 : decode cX5_leave 33 = .ok (.getfield 130, 3) := by decide +kernel
theorem dX5_leave_36 : decode cX5_leave 36 = .ok (.iload_n 2, 1) := by decide +kernel
theorem dX5_leave_37 : decode cX5_leave 37 = .ok (.if_icmp .ge 6, 3) := by decide +kernel
theorem dX5_leave_40 : decode cX5_leave 40 = .ok (.bipush (-4), 2) := by decide +kernel
theorem dX5_leave_42 : decode cX5_leave 42 = .ok (.ireturn, 1) := by decide +kernel
theorem dX5_leave_43 : decode cX5_leave 43 = .ok (.aload_n 0, 1) := by decide +kernel
theorem dX5_leave_44 : decode cX5_leave 44 = .ok (.getfield 22, 3) := by decide +kernel
theorem dX5_leave_47 : decode cX5_leave 47 = .ok (.aload_n 0, 1) := by decide +kernel
theorem dX5_leave_48 : decode cX5_leave 48 = .ok (.getfield 10, 3) := by decide +kernel
theorem dX5_leave_51 : decode cX5_leave 51 = .ok (.invokevirtual 44, 3) := by decide +kernel
theorem dX5_leave_54 : decode cX5_leave 54 = .ok (.aload_n 3, 1) := by decide +kernel
theorem dX5_leave_55 : decode cX5_leave 55 = .ok (.iload_n 2, 1) := by decide +kernel
theorem dX5_leave_56 : decode cX5_leave 56 = .ok (.aload_n 0, 1) := by decide +kernel
theorem dX5_leave_57 : decode cX5_leave 57 = .ok (.getfield 10, 3) := by decide +kernel
theorem dX5_leave_60 : decode cX5_leave 60 = .ok (.getfield 100, 3) := by decide +kernel
theorem dX5_leave_63 : decode cX5_leave 63 = .ok (.invokevirtual 139, 3) := by decide +kernel
theorem dX5_leave_66 : decode cX5_leave 66 = .ok (.istore 4, 2) := by decide +kernel
theorem dX5_leave_68 : decode cX5_leave 68 = .ok (.aload_n 3, 1) := by decide +kernel
theorem dX5_leave_69 : decode cX5_leave 69 = .ok (.dup, 1) := by decide +kernel
theorem dX5_leave_70 : decode cX5_leave 70 = .ok (.getfield 130, 3) := by decide +kernel
theorem dX5_leave_73 : decode cX5_leave 73 = .ok (.iload_n 2, 1) := by decide +kernel
theorem dX5_leave_74 : decode cX5_leave 74 = .ok (.isub, 1) := by decide +kernel
theorem dX5_leave_75 : decode cX5_leave 75 = .ok (.putfield 130, 3) := by decide +kernel
theorem dX5_leave_78 : decode cX5_leave 78 = .ok (.aload_n 0, 1) := by decide +kernel
theorem dX5_leave_79 : decode cX5_leave 79 = .ok (.getfield 10, 3) := by decide +kernel
theorem dX5_leave_82 : decode cX5_leave 82 = .ok (.aload_n 3, 1) := by decide +kernel
theorem dX5_leave_83 : decode cX5_leave 83 = .ok (.iload 4, 2) := by decide +kernel
theorem dX5_leave_85 : decode cX5_leave 85 = .ok (.invokevirtual 143, 3) := by decide +kernel
theorem dX5_leave_88 : decode cX5_leave 88 = .ok (.iload 4, 2) := by decide +kernel
theorem dX5_leave_90 : decode cX5_leave 90 = .ok (.ireturn, 1) := by decide +kernel
theorem dX5_lead_0 : decode cX5_lead 0 = .ok (.aload_n 0, 1) := by decide +kernel
theorem dX5_lead_1 : decode cX5_lead 1 = .ok (.getfield 10, 3) := by decide +kernel
theorem dX5_lead_4 : decode cX5_lead 4 = .ok (.iload_n 2, 1) := by decide +kernel
theorem dX5_lead_5 : decode cX5_lead 5 = .ok (.invokevirtual 120, 3) := by decide +kernel
theorem dX5_lead_8 : decode cX5_lead 8 = .ok (.astore_n 3, 1) := by decide +kernel
theorem dX5_lead_9 : decode cX5_lead 9 = .ok (.aload_n 0, 1) := by decide +kernel
theorem dX5_lead_10 : decode cX5_lead 10 = .ok (.getfield 10, 3) := by decide +kernel
theorem dX5_lead_13 : decode cX5_lead 13 = .ok (.iload_n 1, 1) := by decide +kernel
theorem dX5_lead_14 : decode cX5_lead 14 = .ok (.invokevirtual 58, 3) := by decide +kernel
theorem dX5_lead_17 : decode cX5_lead 17 = .ok (.ifnull 7, 3) := by decide +kernel
theorem dX5_lead_20 : decode cX5_lead 20 = .ok (.aload_n 3, 1) := by decide +kernel
theorem dX5_lead_21 : decode cX5_lead 21 = .ok (.ifnonnull 5, 3) := by decide +kernel
theorem dX5_lead_24 : decode cX5_lead 24 = .ok (.iconst (-1), 1) := by decide +kernel
theorem dX5_lead_25 : decode cX5_lead 25 = .ok (.ireturn, 1) := by decide +kernel
theorem dX5_lead_26 : decode cX5_lead 26 = .ok (.aload_n 0, 1) := by decide +kernel
theorem dX5_lead_27 : decode cX5_lead 27 = .ok (.getfield 10, 3) := by decide +kernel
theorem dX5_lead_30 : decode cX5_lead 30 = .ok (.iload_n 1, 1) := by decide +kernel
theorem dX5_lead_31 : decode cX5_lead 31 = .ok (.aload_n 3, 1) := by decide +kernel
theorem dX5_lead_32 : decode cX5_lead 32 = .ok (.invokevirtual 147, 3) := by decide +kernel
theorem dX5_lead_35 : decode cX5_lead 35 = .ok (.ifCond .ne 6, 3) := by decide +kernel
theorem dX5_lead_38 : decode cX5_lead 38 = .ok (.bipush (-4), 2) := by decide +kernel
theorem dX5_lead_40 : decode cX5_lead 40 = .ok (.ireturn, 1) := by decide +kernel
theorem dX5_lead_41 : decode cX5_lead 41 = .ok (.aload_n 3, 1) := by decide +kernel
theorem dX5_lead_42 : decode cX5_lead 42 = .ok (.getfield 151, 3) := by decide +kernel
theorem dX5_lead_45 : decode cX5_lead 45 = .ok (.iconst 4, 1) := by decide +kernel
theorem dX5_lead_46 : decode cX5_lead 46 = .ok (.if_icmp .lt 6, 3) := by decide +kernel
theorem dX5_lead_49 : decode cX5_lead 49 = .ok (.bipush (-3), 2) := by decide +kernel
theorem dX5_lead_51 : decode cX5_lead 51 = .ok (.ireturn, 1) := by decide +kernel
theorem dX5_lead_52 : decode cX5_lead 52 = .ok (.aload_n 0, 1) := by decide +kernel
theorem dX5_lead_53 : decode cX5_lead 53 = .ok (.getfield 22, 3) := by decide +kernel
theorem dX5_lead_56 : decode cX5_lead 56 = .ok (.aload_n 0, 1) := by decide +kernel
theorem dX5_lead_57 : decode cX5_lead 57 = .ok (.getfield 10, 3) := by decide +kernel
theorem dX5_lead_60 : decode cX5_lead 60 = .ok (.invokevirtual 44, 3) := by decide +kernel
theorem dX5_lead_63 : decode cX5_lead 63 = .ok (.aload_n 3, 1) := by decide +kernel
theorem dX5_lead_64 : decode cX5_lead 64 = .ok (.iload_n 1, 1) := by decide +kernel
theorem dX5_lead_65 : decode cX5_lead 65 = .ok (.invokevirtual 153, 3) := by decide +kernel
theorem dX5_lead_68 : decode cX5_lead 68 = .ok (.aload_n 0, 1) := by decide +kernel
theorem dX5_lead_69 : decode cX5_lead 69 = .ok (.getfield 10, 3) := by decide +kernel
theorem dX5_lead_72 : decode cX5_lead 72 = .ok (.iload_n 1, 1) := by decide +kernel
theorem dX5_lead_73 : decode cX5_lead 73 = .ok (.aload_n 3, 1) := by decide +kernel
theorem dX5_lead_74 : decode cX5_lead 74 = .ok (.invokevirtual 157, 3) := by decide +kernel
theorem dX5_lead_77 : decode cX5_lead 77 = .ok (.ireturn, 1) := by decide +kernel
theorem dX5_release_0 : decode cX5_release 0 = .ok (.aload_n 0, 1) := by decide +kernel
theorem dX5_release_1 : decode cX5_release 1 = .ok (.getfield 10, 3) := by decide +kernel
theorem dX5_release_4 : decode cX5_release 4 = .ok (.iload_n 2, 1) := by decide +kernel
theorem dX5_release_5 : decode cX5_release 5 = .ok (.invokevirtual 120, 3) := by decide +kernel
theorem dX5_release_8 : decode cX5_release 8 = .ok (.astore_n 3, 1) := by decide +kernel
theorem dX5_release_9 : decode cX5_release 9 = .ok (.aload_n 0, 1) := by decide +kernel
theorem dX5_release_10 : decode cX5_release 10 = .ok (.getfield 10, 3) := by decide +kernel
theorem dX5_release_13 : decode cX5_release 13 = .ok (.iload_n 1, 1) := by decide +kernel
theorem dX5_release_14 : decode cX5_release 14 = .ok (.invokevirtual 58, 3) := by decide +kernel
theorem dX5_release_17 : decode cX5_release 17 = .ok (.ifnull 7, 3) := by decide +kernel
theorem dX5_release_20 : decode cX5_release 20 = .ok (.aload_n 3, 1) := by decide +kernel
theorem dX5_release_21 : decode cX5_release 21 = .ok (.ifnonnull 5, 3) := by decide +kernel
theorem dX5_release_24 : decode cX5_release 24 = .ok (.iconst (-1), 1) := by decide +kernel
theorem dX5_release_25 : decode cX5_release 25 = .ok (.ireturn, 1) := by decide +kernel
theorem dX5_release_26 : decode cX5_release 26 = .ok (.aload_n 3, 1) := by decide +kernel
theorem dX5_release_27 : decode cX5_release 27 = .ok (.getfield 127, 3) := by decide +kernel
theorem dX5_release_30 : decode cX5_release 30 = .ok (.ifCond .eq 6, 3) := by decide +kernel
theorem dX5_release_33 : decode cX5_release 33 = .ok (.bipush (-4), 2) := by decide +kernel
theorem dX5_release_35 : decode cX5_release 35 = .ok (.ireturn, 1) := by decide +kernel
theorem dX5_release_36 : decode cX5_release 36 = .ok (.aload_n 3, 1) := by decide +kernel
theorem dX5_release_37 : decode cX5_release 37 = .ok (.iload_n 1, 1) := by decide +kernel
theorem dX5_release_38 : decode cX5_release 38 = .ok (.invokevirtual 161, 3) := by decide +kernel
theorem dX5_release_41 : decode cX5_release 41 = .ok (.ifCond .ne 6, 3) := by decide +kernel
theorem dX5_release_44 : decode cX5_release 44 = .ok (.bipush (-5), 2) := by decide +kernel
theorem dX5_release_46 : decode cX5_release 46 = .ok (.ireturn, 1) := by decide +kernel
theorem dX5_release_47 : decode cX5_release 47 = .ok (.aload_n 0, 1) := by decide +kernel
theorem dX5_release_48 : decode cX5_release 48 = .ok (.getfield 22, 3) := by decide +kernel
theorem dX5_release_51 : decode cX5_release 51 = .ok (.aload_n 0, 1) := by decide +kernel
theorem dX5_release_52 : decode cX5_release 52 = .ok (.getfield 10, 3) := by decide +kernel
theorem dX5_release_55 : decode cX5_release 55 = .ok (.invokevirtual 44, 3) := by decide +kernel
theorem dX5_release_58 : decode cX5_release 58 = .ok (.aload_n 3, 1) := by decide +kernel
theorem dX5_release_59 : decode cX5_release 59 = .ok (.iload_n 1, 1) := by decide +kernel
theorem dX5_release_60 : decode cX5_release 60 = .ok (.invokevirtual 164, 3) := by decide +kernel
theorem dX5_release_63 : decode cX5_release 63 = .ok (.aload_n 0, 1) := by decide +kernel
theorem dX5_release_64 : decode cX5_release 64 = .ok (.getfield 10, 3) := by decide +kernel
theorem dX5_release_67 : decode cX5_release 67 = .ok (.aload_n 3, 1) := by decide +kernel
theorem dX5_release_68 : decode cX5_release 68 = .ok (.aload_n 3, 1) := by decide +kernel
theorem dX5_release_69 : decode cX5_release 69 = .ok (.getfield 151, 3) := by decide +kernel
theorem dX5_release_72 : decode cX5_release 72 = .ok (.invokevirtual 167, 3) := by decide +kernel
theorem dX5_release_75 : decode cX5_release 75 = .ok (.ireturn, 1) := by decide +kernel
theorem dX5_merge_0 : decode cX5_merge 0 = .ok (.aload_n 0, 1) := by decide +kernel
theorem dX5_merge_1 : decode cX5_merge 1 = .ok (.getfield 10, 3) := by decide +kernel
theorem dX5_merge_4 : decode cX5_merge 4 = .ok (.iload_n 1, 1) := by decide +kernel
theorem dX5_merge_5 : decode cX5_merge 5 = .ok (.invokevirtual 120, 3) := by decide +kernel
theorem dX5_merge_8 : decode cX5_merge 8 = .ok (.astore_n 3, 1) := by decide +kernel
theorem dX5_merge_9 : decode cX5_merge 9 = .ok (.aload_n 0, 1) := by decide +kernel
theorem dX5_merge_10 : decode cX5_merge 10 = .ok (.getfield 10, 3) := by decide +kernel
theorem dX5_merge_13 : decode cX5_merge 13 = .ok (.iload_n 2, 1) := by decide +kernel
theorem dX5_merge_14 : decode cX5_merge 14 = .ok (.invokevirtual 120, 3) := by decide +kernel
theorem dX5_merge_17 : decode cX5_merge 17 = .ok (.astore 4, 2) := by decide +kernel
theorem dX5_merge_19 : decode cX5_merge 19 = .ok (.aload_n 3, 1) := by decide +kernel
theorem dX5_merge_20 : decode cX5_merge 20 = .ok (.ifnull 8, 3) := by decide +kernel
theorem dX5_merge_23 : decode cX5_merge 23 = .ok (.aload 4, 2) := by decide +kernel
theorem dX5_merge_25 : decode cX5_merge 25 = .ok (.ifnonnull 5, 3) := by decide +kernel
theorem dX5_merge_28 : decode cX5_merge 28 = .ok (.iconst (-1), 1) := by decide +kernel
theorem dX5_merge_29 : decode cX5_merge 29 = .ok (.ireturn, 1) := by decide +kernel
theorem dX5_merge_30 : decode cX5_merge 30 = .ok (.iload_n 1, 1) := by decide +kernel
theorem dX5_merge_31 : decode cX5_merge 31 = .ok (.iload_n 2, 1) := by decide +kernel
theorem dX5_merge_32 : decode cX5_merge 32 = .ok (.if_icmp .ne 6, 3) := by decide +kernel
theorem dX5_merge_35 : decode cX5_merge 35 = .ok (.bipush (-2), 2) := by decide +kernel
theorem dX5_merge_37 : decode cX5_merge 37 = .ok (.ireturn, 1) := by decide +kernel
theorem dX5_merge_38 : decode cX5_merge 38 = .ok (.aload_n 3, 1) := by decide +kernel
theorem dX5_merge_39 : decode cX5_merge 39 = .ok (.aload 4, 2) := by decide +kernel
theorem dX5_merge_41 : decode cX5_merge 41 = .ok (.invokevirtual 171, 3) := by decide +kernel
theorem dX5_merge_44 : decode cX5_merge 44 = .ok (.ifCond .ne 6, 3) := by decide +kernel
theorem dX5_merge_47 : decode cX5_merge 47 = .ok (.bipush (-4), 2) := by decide +kernel
theorem dX5_merge_49 : decode cX5_merge 49 = .ok (.ireturn, 1) := by decide +kernel
theorem dX5_merge_50 : decode cX5_merge 50 = .ok (.aload_n 0, 1) := by decide +kernel
theorem dX5_merge_51 : decode cX5_merge 51 = .ok (.getfield 22, 3) := by decide +kernel
theorem dX5_merge_54 : decode cX5_merge 54 = .ok (.aload_n 0, 1) := by decide +kernel
theorem dX5_merge_55 : decode cX5_merge 55 = .ok (.getfield 10, 3) := by decide +kernel
theorem dX5_merge_58 : decode cX5_merge 58 = .ok (.invokevirtual 44, 3) := by decide +kernel
theorem dX5_merge_61 : decode cX5_merge 61 = .ok (.aload 4, 2) := by decide +kernel
theorem dX5_merge_63 : decode cX5_merge 63 = .ok (.getfield 133, 3) := by decide +kernel
theorem dX5_merge_66 : decode cX5_merge 66 = .ok (.aload_n 3, 1) := by decide +kernel
theorem dX5_merge_67 : decode cX5_merge 67 = .ok (.getfield 130, 3) := by decide +kernel
theorem dX5_merge_70 : decode cX5_merge 70 = .ok (.imul, 1) := by decide +kernel
theorem dX5_merge_71 : decode cX5_merge 71 = .ok (.istore 5, 2) := by decide +kernel
theorem dX5_merge_73 : decode cX5_merge 73 = .ok (.aload_n 3, 1) := by decide +kernel
theorem dX5_merge_74 : decode cX5_merge 74 = .ok (.getfield 136, 3) := by decide +kernel
theorem dX5_merge_77 : decode cX5_merge 77 = .ok (.iload 5, 2) := by decide +kernel
theorem dX5_merge_79 : decode cX5_merge 79 = .ok (.if_icmp .le 13, 3) := by decide +kernel
theorem dX5_merge_82 : decode cX5_merge 82 = .ok (.aload_n 3, 1) := by decide +kernel
theorem dX5_merge_83 : decode cX5_merge 83 = .ok (.getfield 136, 3) := by decide +kernel
theorem dX5_merge_86 : decode cX5_merge 86 = .ok (.iload 5, 2) := by decide +kernel
theorem dX5_merge_88 : decode cX5_merge 88 = .ok (.isub, 1) := by decide +kernel
theorem dX5_merge_89 : decode cX5_merge 89 = .ok (.goto 4, 3) := by decide +kernel
theorem dX5_merge_92 : decode cX5_merge 92 = .ok (.iconst 0, 1) := by decide +kernel
theorem dX5_merge_93 : decode cX5_merge 93 = .ok (.istore 6, 2) := by decide +kernel
theorem dX5_merge_95 : decode cX5_merge 95 = .ok (.aload_n 0, 1) := by decide +kernel
theorem dX5_merge_96 : decode cX5_merge 96 = .ok (.getfield 10, 3) := by decide +kernel
theorem dX5_merge_99 : decode cX5_merge 99 = .ok (.aload_n 3, 1) := by decide +kernel
theorem dX5_merge_100 : decode cX5_merge 100 = .ok (.iload 6, 2) := by decide +kernel
theorem dX5_merge_102 : decode cX5_merge 102 = .ok (.invokevirtual 143, 3) := by decide +kernel
theorem dX5_merge_105 : decode cX5_merge 105 = .ok (.aload_n 3, 1) := by decide +kernel
theorem dX5_merge_106 : decode cX5_merge 106 = .ok (.aload 4, 2) := by decide +kernel
theorem dX5_merge_108 : decode cX5_merge 108 = .ok (.invokevirtual 175, 3) := by decide +kernel
theorem dX5_merge_111 : decode cX5_merge 111 = .ok (.iload 6, 2) := by decide +kernel
theorem dX5_merge_113 : decode cX5_merge 113 = .ok (.ireturn, 1) := by decide +kernel
theorem dX5_cancel_0 : decode cX5_cancel 0 = .ok (.aload_n 0, 1) := by decide +kernel
theorem dX5_cancel_1 : decode cX5_cancel 1 = .ok (.getfield 10, 3) := by decide +kernel
theorem dX5_cancel_4 : decode cX5_cancel 4 = .ok (.iload_n 1, 1) := by decide +kernel
theorem dX5_cancel_5 : decode cX5_cancel 5 = .ok (.invokevirtual 120, 3) := by decide +kernel
theorem dX5_cancel_8 : decode cX5_cancel 8 = .ok (.astore_n 2, 1) := by decide +kernel
theorem dX5_cancel_9 : decode cX5_cancel 9 = .ok (.aload_n 2, 1) := by decide +kernel
theorem dX5_cancel_10 : decode cX5_cancel 10 = .ok (.ifnonnull 5, 3) := by decide +kernel
theorem dX5_cancel_13 : decode cX5_cancel 13 = .ok (.iconst (-1), 1) := by decide +kernel
theorem dX5_cancel_14 : decode cX5_cancel 14 = .ok (.ireturn, 1) := by decide +kernel
theorem dX5_cancel_15 : decode cX5_cancel 15 = .ok (.aload_n 2, 1) := by decide +kernel
theorem dX5_cancel_16 : decode cX5_cancel 16 = .ok (.getfield 127, 3) := by decide +kernel
theorem dX5_cancel_19 : decode cX5_cancel 19 = .ok (.ifCond .eq 6, 3) := by decide +kernel
theorem dX5_cancel_22 : decode cX5_cancel 22 = .ok (.bipush (-4), 2) := by decide +kernel
theorem dX5_cancel_24 : decode cX5_cancel 24 = .ok (.ireturn, 1) := by decide +kernel
theorem dX5_cancel_25 : decode cX5_cancel 25 = .ok (.aload_n 0, 1) := by decide +kernel
theorem dX5_cancel_26 : decode cX5_cancel 26 = .ok (.getfield 22, 3) := by decide +kernel
theorem dX5_cancel_29 : decode cX5_cancel 29 = .ok (.aload_n 0, 1) := by decide +kernel
theorem dX5_cancel_30 : decode cX5_cancel 30 = .ok (.getfield 10, 3) := by decide +kernel
theorem dX5_cancel_33 : decode cX5_cancel 33 = .ok (.invokevirtual 44, 3) := by decide +kernel
theorem dX5_cancel_36 : decode cX5_cancel 36 = .ok (.aload_n 0, 1) := by decide +kernel
theorem dX5_cancel_37 : decode cX5_cancel 37 = .ok (.getfield 10, 3) := by decide +kernel
theorem dX5_cancel_40 : decode cX5_cancel 40 = .ok (.aload_n 2, 1) := by decide +kernel
theorem dX5_cancel_41 : decode cX5_cancel 41 = .ok (.iconst 4, 1) := by decide +kernel
theorem dX5_cancel_42 : decode cX5_cancel 42 = .ok (.invokevirtual 179, 3) := by decide +kernel
theorem dX5_cancel_45 : decode cX5_cancel 45 = .ok (.ireturn, 1) := by decide +kernel
theorem dX5_pass_0 : decode cX5_pass 0 = .ok (.iload_n 1, 1) := by decide +kernel
theorem dX5_pass_1 : decode cX5_pass 1 = .ok (.iconst 1, 1) := by decide +kernel
theorem dX5_pass_2 : decode cX5_pass 2 = .ok (.if_icmp .lt 9, 3) := by decide +kernel
theorem dX5_pass_5 : decode cX5_pass 5 = .ok (.iload_n 1, 1) := by decide +kernel
theorem dX5_pass_6 : decode cX5_pass 6 = .ok (.bipush 30, 2) := by decide +kernel
theorem dX5_pass_8 : decode cX5_pass 8 = .ok (.if_icmp .le 6, 3) := by decide +kernel
theorem dX5_pass_11 : decode cX5_pass 11 = .ok (.bipush (-2), 2) := by decide +kernel
theorem dX5_pass_13 : decode cX5_pass 13 = .ok (.ireturn, 1) := by decide +kernel
theorem dX5_pass_14 : decode cX5_pass 14 = .ok (.aload_n 0, 1) := by decide +kernel
theorem dX5_pass_15 : decode cX5_pass 15 = .ok (.getfield 10, 3) := by decide +kernel
theorem dX5_pass_18 : decode cX5_pass 18 = .ok (.getfield 100, 3) := by decide +kernel
theorem dX5_pass_21 : decode cX5_pass 21 = .ok (.iload_n 1, 1) := by decide +kernel
theorem dX5_pass_22 : decode cX5_pass 22 = .ok (.iadd, 1) := by decide +kernel
theorem dX5_pass_23 : decode cX5_pass 23 = .ok (.sipush 1000, 3) := by decide +kernel
theorem dX5_pass_26 : decode cX5_pass 26 = .ok (.if_icmp .le 6, 3) := by decide +kernel
theorem dX5_pass_29 : decode cX5_pass 29 = .ok (.bipush (-4), 2) := by decide +kernel
theorem dX5_pass_31 : decode cX5_pass 31 = .ok (.ireturn, 1) := by decide +kernel
theorem dX5_pass_32 : decode cX5_pass 32 = .ok (.aload_n 0, 1) := by decide +kernel
theorem dX5_pass_33 : decode cX5_pass 33 = .ok (.getfield 22, 3) := by decide +kernel
theorem dX5_pass_36 : decode cX5_pass 36 = .ok (.aload_n 0, 1) := by decide +kernel
theorem dX5_pass_37 : decode cX5_pass 37 = .ok (.getfield 10, 3) := by decide +kernel
theorem dX5_pass_40 : decode cX5_pass 40 = .ok (.invokevirtual 44, 3) := by decide +kernel
theorem dX5_pass_43 : decode cX5_pass 43 = .ok (.iconst 0, 1) := by decide +kernel
theorem dX5_pass_44 : decode cX5_pass 44 = .ok (.istore_n 2, 1) := by decide +kernel
theorem dX5_pass_45 : decode cX5_pass 45 = .ok (.iconst 0, 1) := by decide +kernel
theorem dX5_pass_46 : decode cX5_pass 46 = .ok (.istore_n 3, 1) := by decide +kernel
theorem dX5_pass_47 : decode cX5_pass 47 = .ok (.iload_n 3, 1) := by decide +kernel
theorem dX5_pass_48 : decode cX5_pass 48 = .ok (.iload_n 1, 1) := by decide +kernel
theorem dX5_pass_49 : decode cX5_pass 49 = .ok (.if_icmp .ge 19, 3) := by decide +kernel
theorem dX5_pass_52 : decode cX5_pass 52 = .ok (.iload_n 2, 1) := by decide +kernel
theorem dX5_pass_53 : decode cX5_pass 53 = .ok (.aload_n 0, 1) := by decide +kernel
theorem dX5_pass_54 : decode cX5_pass 54 = .ok (.getfield 10, 3) := by decide +kernel
theorem dX5_pass_57 : decode cX5_pass 57 = .ok (.invokevirtual 182, 3) := by decide +kernel
theorem dX5_pass_60 : decode cX5_pass 60 = .ok (.iadd, 1) := by decide +kernel
theorem dX5_pass_61 : decode cX5_pass 61 = .ok (.istore_n 2, 1) := by decide +kernel
theorem dX5_pass_62 : decode cX5_pass 62 = .ok (.iinc 3 1, 3) := by decide +kernel
theorem dX5_pass_65 : decode cX5_pass 65 = .ok (.goto (-18), 3) := by decide +kernel
theorem dX5_pass_68 : decode cX5_pass 68 = .ok (.iload_n 2, 1) := by decide +kernel
theorem dX5_pass_69 : decode cX5_pass 69 = .ok (.ireturn, 1) := by decide +kernel
theorem dX5_type_0 : decode cX5_type 0 = .ok (.aload_n 0, 1) := by decide +kernel
theorem dX5_type_1 : decode cX5_type 1 = .ok (.getfield 29, 3) := by decide +kernel
theorem dX5_type_4 : decode cX5_type 4 = .ok (.getfield 186, 3) := by decide +kernel
theorem dX5_type_7 : decode cX5_type 7 = .ok (.bipush 40, 2) := by decide +kernel
theorem dX5_type_9 : decode cX5_type 9 = .ok (.if_icmp .lt 6, 3) := by decide +kernel
theorem dX5_type_12 : decode cX5_type 12 = .ok (.bipush (-3), 2) := by decide +kernel
theorem dX5_type_14 : decode cX5_type 14 = .ok (.ireturn, 1) := by decide +kernel
theorem dX5_type_15 : decode cX5_type 15 = .ok (.aload_n 0, 1) := by decide +kernel
theorem dX5_type_16 : decode cX5_type 16 = .ok (.getfield 29, 3) := by decide +kernel
theorem dX5_type_19 : decode cX5_type 19 = .ok (.iload_n 1, 1) := by decide +kernel
theorem dX5_type_20 : decode cX5_type 20 = .ok (.invokevirtual 189, 3) := by decide +kernel
theorem dX5_type_23 : decode cX5_type 23 = .ok (.aload_n 0, 1) := by decide +kernel
theorem dX5_type_24 : decode cX5_type 24 = .ok (.getfield 29, 3) := by decide +kernel
theorem dX5_type_27 : decode cX5_type 27 = .ok (.getfield 186, 3) := by decide +kernel
theorem dX5_type_30 : decode cX5_type 30 = .ok (.ireturn, 1) := by decide +kernel
theorem dX5_clearText_0 : decode cX5_clearText 0 = .ok (.aload_n 0, 1) := by decide +kernel
theorem dX5_clearText_1 : decode cX5_clearText 1 = .ok (.getfield 29, 3) := by decide +kernel
theorem dX5_clearText_4 : decode cX5_clearText 4 = .ok (.getfield 186, 3) := by decide +kernel
theorem dX5_clearText_7 : decode cX5_clearText 7 = .ok (.istore_n 1, 1) := by decide +kernel
theorem dX5_clearText_8 : decode cX5_clearText 8 = .ok (.aload_n 0, 1) := by decide +kernel
theorem dX5_clearText_9 : decode cX5_clearText 9 = .ok (.getfield 29, 3) := by decide +kernel
theorem dX5_clearText_12 : decode cX5_clearText 12 = .ok (.iconst 0, 1) := by decide +kernel
theorem dX5_clearText_13 : decode cX5_clearText 13 = .ok (.putfield 186, 3) := by decide +kernel
theorem dX5_clearText_16 : decode cX5_clearText 16 = .ok (.iload_n 1, 1) := by decide +kernel
theorem dX5_clearText_17 : decode cX5_clearText 17 = .ok (.ireturn, 1) := by decide +kernel
theorem dX5_perform_0 : decode cX5_perform 0 = .ok (.aload_n 0, 1) := by decide +kernel
theorem dX5_perform_1 : decode cX5_perform 1 = .ok (.getfield 29, 3) := by decide +kernel
theorem dX5_perform_4 : decode cX5_perform 4 = .ok (.invokevirtual 193, 3) := by decide +kernel
theorem dX5_perform_7 : decode cX5_perform 7 = .ok (.istore_n 1, 1) := by decide +kernel
theorem dX5_perform_8 : decode cX5_perform 8 = .ok (.iload_n 1, 1) := by decide +kernel
theorem dX5_perform_9 : decode cX5_perform 9 = .ok (.iconst (-1), 1) := by decide +kernel
theorem dX5_perform_10 : decode cX5_perform 10 = .ok (.if_icmp .eq 8, 3) := by decide +kernel
theorem dX5_perform_13 : decode cX5_perform 13 = .ok (.bipush (-100), 2) := by decide +kernel
theorem dX5_perform_15 : decode cX5_perform 15 = .ok (.iload_n 1, 1) := by decide +kernel
theorem dX5_perform_16 : decode cX5_perform 16 = .ok (.isub, 1) := by decide +kernel
theorem dX5_perform_17 : decode cX5_perform 17 = .ok (.ireturn, 1) := by decide +kernel
theorem dX5_perform_18 : decode cX5_perform 18 = .ok (.aload_n 0, 1) := by decide +kernel
theorem dX5_perform_19 : decode cX5_perform 19 = .ok (.getfield 29, 3) := by decide +kernel
theorem dX5_perform_22 : decode cX5_perform 22 = .ok (.getfield 196, 3) := by decide +kernel
theorem dX5_perform_25 : decode cX5_perform 25 = .ok (.tableswitch 111 1 5 #[35, 54, 73, 111, 92], 35) := by decide +kernel
theorem dX5_perform_60 : decode cX5_perform 60 = .ok (.aload_n 0, 1) := by decide +kernel
theorem dX5_perform_61 : decode cX5_perform 61 = .ok (.aload_n 0, 1) := by decide +kernel
theorem dX5_perform_62 : decode cX5_perform 62 = .ok (.getfield 29, 3) := by decide +kernel
theorem dX5_perform_65 : decode cX5_perform 65 = .ok (.getfield 199, 3) := by decide +kernel
theorem dX5_perform_68 : decode cX5_perform 68 = .ok (.aload_n 0, 1) := by decide +kernel
theorem dX5_perform_69 : decode cX5_perform 69 = .ok (.getfield 29, 3) := by decide +kernel
theorem dX5_perform_72 : decode cX5_perform 72 = .ok (.getfield 202, 3) := by decide +kernel
theorem dX5_perform_75 : decode cX5_perform 75 = .ok (.invokevirtual 205, 3) := by decide +kernel
theorem dX5_perform_78 : decode cX5_perform 78 = .ok (.ireturn, 1) := by decide +kernel
theorem dX5_perform_79 : decode cX5_perform 79 = .ok (.aload_n 0, 1) := by decide +kernel
theorem dX5_perform_80 : decode cX5_perform 80 = .ok (.aload_n 0, 1) := by decide +kernel
theorem dX5_perform_81 : decode cX5_perform 81 = .ok (.getfield 29, 3) := by decide +kernel
theorem dX5_perform_84 : decode cX5_perform 84 = .ok (.getfield 199, 3) := by decide +kernel
theorem dX5_perform_87 : decode cX5_perform 87 = .ok (.aload_n 0, 1) := by decide +kernel
theorem dX5_perform_88 : decode cX5_perform 88 = .ok (.getfield 29, 3) := by decide +kernel
theorem dX5_perform_91 : decode cX5_perform 91 = .ok (.getfield 202, 3) := by decide +kernel
theorem dX5_perform_94 : decode cX5_perform 94 = .ok (.invokevirtual 208, 3) := by decide +kernel
theorem dX5_perform_97 : decode cX5_perform 97 = .ok (.ireturn, 1) := by decide +kernel
theorem dX5_perform_98 : decode cX5_perform 98 = .ok (.aload_n 0, 1) := by decide +kernel
theorem dX5_perform_99 : decode cX5_perform 99 = .ok (.aload_n 0, 1) := by decide +kernel
theorem dX5_perform_100 : decode cX5_perform 100 = .ok (.getfield 29, 3) := by decide +kernel
theorem dX5_perform_103 : decode cX5_perform 103 = .ok (.getfield 199, 3) := by decide +kernel
theorem dX5_perform_106 : decode cX5_perform 106 = .ok (.aload_n 0, 1) := by decide +kernel
theorem dX5_perform_107 : decode cX5_perform 107 = .ok (.getfield 29, 3) := by decide +kernel
theorem dX5_perform_110 : decode cX5_perform 110 = .ok (.getfield 202, 3) := by decide +kernel
theorem dX5_perform_113 : decode cX5_perform 113 = .ok (.invokevirtual 211, 3) := by decide +kernel
theorem dX5_perform_116 : decode cX5_perform 116 = .ok (.ireturn, 1) := by decide +kernel
theorem dX5_perform_117 : decode cX5_perform 117 = .ok (.aload_n 0, 1) := by decide +kernel
theorem dX5_perform_118 : decode cX5_perform 118 = .ok (.aload_n 0, 1) := by decide +kernel
theorem dX5_perform_119 : decode cX5_perform 119 = .ok (.getfield 29, 3) := by decide +kernel
theorem dX5_perform_122 : decode cX5_perform 122 = .ok (.getfield 199, 3) := by decide +kernel
theorem dX5_perform_125 : decode cX5_perform 125 = .ok (.aload_n 0, 1) := by decide +kernel
theorem dX5_perform_126 : decode cX5_perform 126 = .ok (.getfield 29, 3) := by decide +kernel
theorem dX5_perform_129 : decode cX5_perform 129 = .ok (.getfield 202, 3) := by decide +kernel
theorem dX5_perform_132 : decode cX5_perform 132 = .ok (.invokevirtual 214, 3) := by decide +kernel
theorem dX5_perform_135 : decode cX5_perform 135 = .ok (.ireturn, 1) := by decide +kernel
theorem dX5_perform_136 : decode cX5_perform 136 = .ok (.aload_n 0, 1) := by decide +kernel
theorem dX5_perform_137 : decode cX5_perform 137 = .ok (.aload_n 0, 1) := by decide +kernel
theorem dX5_perform_138 : decode cX5_perform 138 = .ok (.getfield 29, 3) := by decide +kernel
theorem dX5_perform_141 : decode cX5_perform 141 = .ok (.getfield 199, 3) := by decide +kernel
theorem dX5_perform_144 : decode cX5_perform 144 = .ok (.invokevirtual 217, 3) := by decide +kernel
theorem dX5_perform_147 : decode cX5_perform 147 = .ok (.ireturn, 1) := by decide +kernel
theorem dX5_undo_0 : decode cX5_undo 0 = .ok (.aload_n 0, 1) := by decide +kernel
theorem dX5_undo_1 : decode cX5_undo 1 = .ok (.getfield 22, 3) := by decide +kernel
theorem dX5_undo_4 : decode cX5_undo 4 = .ok (.getfield 221, 3) := by decide +kernel
theorem dX5_undo_7 : decode cX5_undo 7 = .ok (.ifCond .ne 6, 3) := by decide +kernel
theorem dX5_undo_10 : decode cX5_undo 10 = .ok (.bipush (-5), 2) := by decide +kernel
theorem dX5_undo_12 : decode cX5_undo 12 = .ok (.ireturn, 1) := by decide +kernel
theorem dX5_undo_13 : decode cX5_undo 13 = .ok (.aload_n 0, 1) := by decide +kernel
theorem dX5_undo_14 : decode cX5_undo 14 = .ok (.getfield 22, 3) := by decide +kernel
theorem dX5_undo_17 : decode cX5_undo 17 = .ok (.aload_n 0, 1) := by decide +kernel
theorem dX5_undo_18 : decode cX5_undo 18 = .ok (.getfield 10, 3) := by decide +kernel
theorem dX5_undo_21 : decode cX5_undo 21 = .ok (.invokevirtual 224, 3) := by decide +kernel
theorem dX5_undo_24 : decode cX5_undo 24 = .ok (.aload_n 0, 1) := by decide +kernel
theorem dX5_undo_25 : decode cX5_undo 25 = .ok (.getfield 22, 3) := by decide +kernel
theorem dX5_undo_28 : decode cX5_undo 28 = .ok (.getfield 221, 3) := by decide +kernel
theorem dX5_undo_31 : decode cX5_undo 31 = .ok (.ireturn, 1) := by decide +kernel
theorem dX5_keep_0 : decode cX5_keep 0 = .ok (.aload_n 0, 1) := by decide +kernel
theorem dX5_keep_1 : decode cX5_keep 1 = .ok (.getfield 16, 3) := by decide +kernel
theorem dX5_keep_4 : decode cX5_keep 4 = .ok (.aload_n 0, 1) := by decide +kernel
theorem dX5_keep_5 : decode cX5_keep 5 = .ok (.getfield 10, 3) := by decide +kernel
theorem dX5_keep_8 : decode cX5_keep 8 = .ok (.invokevirtual 227, 3) := by decide +kernel
theorem dX5_keep_11 : decode cX5_keep 11 = .ok (.aload_n 0, 1) := by decide +kernel
theorem dX5_keep_12 : decode cX5_keep 12 = .ok (.iconst 1, 1) := by decide +kernel
theorem dX5_keep_13 : decode cX5_keep 13 = .ok (.putfield 230, 3) := by decide +kernel
theorem dX5_keep_16 : decode cX5_keep 16 = .ok (.aload_n 0, 1) := by decide +kernel
theorem dX5_keep_17 : decode cX5_keep 17 = .ok (.getfield 10, 3) := by decide +kernel
theorem dX5_keep_20 : decode cX5_keep 20 = .ok (.getfield 100, 3) := by decide +kernel
theorem dX5_keep_23 : decode cX5_keep 23 = .ok (.ireturn, 1) := by decide +kernel
theorem dX5_restore_0 : decode cX5_restore 0 = .ok (.aload_n 0, 1) := by decide +kernel
theorem dX5_restore_1 : decode cX5_restore 1 = .ok (.getfield 230, 3) := by decide +kernel
theorem dX5_restore_4 : decode cX5_restore 4 = .ok (.ifCond .ne 6, 3) := by decide +kernel
theorem dX5_restore_7 : decode cX5_restore 7 = .ok (.bipush (-5), 2) := by decide +kernel
theorem dX5_restore_9 : decode cX5_restore 9 = .ok (.ireturn, 1) := by decide +kernel
theorem dX5_restore_10 : decode cX5_restore 10 = .ok (.aload_n 0, 1) := by decide +kernel
theorem dX5_restore_11 : decode cX5_restore 11 = .ok (.getfield 22, 3) := by decide +kernel
theorem dX5_restore_14 : decode cX5_restore 14 = .ok (.aload_n 0, 1) := by decide +kernel
theorem dX5_restore_15 : decode cX5_restore 15 = .ok (.getfield 10, 3) := by decide +kernel
theorem dX5_restore_18 : decode cX5_restore 18 = .ok (.invokevirtual 44, 3) := by decide +kernel
theorem dX5_restore_21 : decode cX5_restore 21 = .ok (.aload_n 0, 1) := by decide +kernel
theorem dX5_restore_22 : decode cX5_restore 22 = .ok (.getfield 10, 3) := by decide +kernel
theorem dX5_restore_25 : decode cX5_restore 25 = .ok (.aload_n 0, 1) := by decide +kernel
theorem dX5_restore_26 : decode cX5_restore 26 = .ok (.getfield 16, 3) := by decide +kernel
theorem dX5_restore_29 : decode cX5_restore 29 = .ok (.invokevirtual 227, 3) := by decide +kernel
theorem dX5_restore_32 : decode cX5_restore 32 = .ok (.aload_n 0, 1) := by decide +kernel
theorem dX5_restore_33 : decode cX5_restore 33 = .ok (.getfield 10, 3) := by decide +kernel
theorem dX5_restore_36 : decode cX5_restore 36 = .ok (.getfield 100, 3) := by decide +kernel
theorem dX5_restore_39 : decode cX5_restore 39 = .ok (.ireturn, 1) := by decide +kernel
theorem dX5_guide_0 : decode cX5_guide 0 = .ok (.aload_n 0, 1) := by decide +kernel
theorem dX5_guide_1 : decode cX5_guide 1 = .ok (.getfield 10, 3) := by decide +kernel
theorem dX5_guide_4 : decode cX5_guide 4 = .ok (.iload_n 1, 1) := by decide +kernel
theorem dX5_guide_5 : decode cX5_guide 5 = .ok (.invokevirtual 58, 3) := by decide +kernel
theorem dX5_guide_8 : decode cX5_guide 8 = .ok (.astore_n 3, 1) := by decide +kernel
theorem dX5_guide_9 : decode cX5_guide 9 = .ok (.aload_n 3, 1) := by decide +kernel
theorem dX5_guide_10 : decode cX5_guide 10 = .ok (.ifnonnull 5, 3) := by decide +kernel
theorem dX5_guide_13 : decode cX5_guide 13 = .ok (.iconst (-1), 1) := by decide +kernel
theorem dX5_guide_14 : decode cX5_guide 14 = .ok (.ireturn, 1) := by decide +kernel
theorem dX5_guide_15 : decode cX5_guide 15 = .ok (.iload_n 2, 1) := by decide +kernel
theorem dX5_guide_16 : decode cX5_guide 16 = .ok (.tableswitch 89 0 5 #[40, 45, 50, 70, 79, 84], 40) := by decide +kernel
theorem dX5_guide_56 : decode cX5_guide 56 = .ok (.aload_n 3, 1) := by decide +kernel
theorem dX5_guide_57 : decode cX5_guide 57 = .ok (.getfield 62, 3) := by decide +kernel
theorem dX5_guide_60 : decode cX5_guide 60 = .ok (.ireturn, 1) := by decide +kernel
theorem dX5_guide_61 : decode cX5_guide 61 = .ok (.aload_n 3, 1) := by decide +kernel
theorem dX5_guide_62 : decode cX5_guide 62 = .ok (.getfield 65, 3) := by decide +kernel
theorem dX5_guide_65 : decode cX5_guide 65 = .ok (.ireturn, 1) := by decide +kernel
theorem dX5_guide_66 : decode cX5_guide 66 = .ok (.aload_n 3, 1) := by decide +kernel
theorem dX5_guide_67 : decode cX5_guide 67 = .ok (.aload_n 0, 1) := by decide +kernel
theorem dX5_guide_68 : decode cX5_guide 68 = .ok (.getfield 10, 3) := by decide +kernel
theorem dX5_guide_71 : decode cX5_guide 71 = .ok (.getfield 100, 3) := by decide +kernel
theorem dX5_guide_74 : decode cX5_guide 74 = .ok (.invokevirtual 234, 3) := by decide +kernel
theorem dX5_guide_77 : decode cX5_guide 77 = .ok (.ifCond .eq 7, 3) := by decide +kernel
theorem dX5_guide_80 : decode cX5_guide 80 = .ok (.iconst 1, 1) := by decide +kernel
theorem dX5_guide_81 : decode cX5_guide 81 = .ok (.goto 4, 3) := by decide +kernel
theorem dX5_guide_84 : decode cX5_guide 84 = .ok (.iconst 0, 1) := by decide +kernel
theorem dX5_guide_85 : decode cX5_guide 85 = .ok (.ireturn, 1) := by decide +kernel
theorem dX5_guide_86 : decode cX5_guide 86 = .ok (.aload_n 0, 1) := by decide +kernel
theorem dX5_guide_87 : decode cX5_guide 87 = .ok (.getfield 10, 3) := by decide +kernel
theorem dX5_guide_90 : decode cX5_guide 90 = .ok (.iload_n 1, 1) := by decide +kernel
theorem dX5_guide_91 : decode cX5_guide 91 = .ok (.invokevirtual 237, 3) := by decide +kernel
theorem dX5_guide_94 : decode cX5_guide 94 = .ok (.ireturn, 1) := by decide +kernel
theorem dX5_guide_95 : decode cX5_guide 95 = .ok (.aload_n 3, 1) := by decide +kernel
theorem dX5_guide_96 : decode cX5_guide 96 = .ok (.getfield 240, 3) := by decide +kernel
theorem dX5_guide_99 : decode cX5_guide 99 = .ok (.ireturn, 1) := by decide +kernel
theorem dX5_guide_100 : decode cX5_guide 100 = .ok (.aload_n 3, 1) := by decide +kernel
theorem dX5_guide_101 : decode cX5_guide 101 = .ok (.getfield 243, 3) := by decide +kernel
theorem dX5_guide_104 : decode cX5_guide 104 = .ok (.ireturn, 1) := by decide +kernel
theorem dX5_guide_105 : decode cX5_guide 105 = .ok (.bipush (-2), 2) := by decide +kernel
theorem dX5_guide_107 : decode cX5_guide 107 = .ok (.ireturn, 1) := by decide +kernel
theorem dX5_tour_0 : decode cX5_tour 0 = .ok (.aload_n 0, 1) := by decide +kernel
theorem dX5_tour_1 : decode cX5_tour 1 = .ok (.getfield 10, 3) := by decide +kernel
theorem dX5_tour_4 : decode cX5_tour 4 = .ok (.iload_n 1, 1) := by decide +kernel
theorem dX5_tour_5 : decode cX5_tour 5 = .ok (.invokevirtual 120, 3) := by decide +kernel
theorem dX5_tour_8 : decode cX5_tour 8 = .ok (.astore_n 3, 1) := by decide +kernel
theorem dX5_tour_9 : decode cX5_tour 9 = .ok (.aload_n 3, 1) := by decide +kernel
theorem dX5_tour_10 : decode cX5_tour 10 = .ok (.ifnonnull 5, 3) := by decide +kernel
theorem dX5_tour_13 : decode cX5_tour 13 = .ok (.iconst (-1), 1) := by decide +kernel
theorem dX5_tour_14 : decode cX5_tour 14 = .ok (.ireturn, 1) := by decide +kernel
theorem dX5_tour_15 : decode cX5_tour 15 = .ok (.iload_n 2, 1) := by decide +kernel
theorem dX5_tour_16 : decode cX5_tour 16 = .ok (.tableswitch 152 0 10 #[60, 65, 70, 75, 80, 85, 90, 95, 113, 126, 131], 60) := by decide +kernel
theorem dX5_tour_76 : decode cX5_tour 76 = .ok (.aload_n 3, 1) := by decide +kernel
theorem dX5_tour_77 : decode cX5_tour 77 = .ok (.getfield 246, 3) := by decide +kernel
theorem dX5_tour_80 : decode cX5_tour 80 = .ok (.ireturn, 1) := by decide +kernel
theorem dX5_tour_81 : decode cX5_tour 81 = .ok (.aload_n 3, 1) := by decide +kernel
theorem dX5_tour_82 : decode cX5_tour 82 = .ok (.getfield 133, 3) := by decide +kernel
theorem dX5_tour_85 : decode cX5_tour 85 = .ok (.ireturn, 1) := by decide +kernel
theorem dX5_tour_86 : decode cX5_tour 86 = .ok (.aload_n 3, 1) := by decide +kernel
theorem dX5_tour_87 : decode cX5_tour 87 = .ok (.getfield 247, 3) := by decide +kernel
theorem dX5_tour_90 : decode cX5_tour 90 = .ok (.ireturn, 1) := by decide +kernel
theorem dX5_tour_91 : decode cX5_tour 91 = .ok (.aload_n 3, 1) := by decide +kernel
theorem dX5_tour_92 : decode cX5_tour 92 = .ok (.getfield 130, 3) := by decide +kernel
theorem dX5_tour_95 : decode cX5_tour 95 = .ok (.ireturn, 1) := by decide +kernel
theorem dX5_tour_96 : decode cX5_tour 96 = .ok (.aload_n 3, 1) := by decide +kernel
theorem dX5_tour_97 : decode cX5_tour 97 = .ok (.getfield 151, 3) := by decide +kernel
theorem dX5_tour_100 : decode cX5_tour 100 = .ok (.ireturn, 1) := by decide +kernel
theorem dX5_tour_101 : decode cX5_tour 101 = .ok (.aload_n 3, 1) := by decide +kernel
theorem dX5_tour_102 : decode cX5_tour 102 = .ok (.getfield 136, 3) := by decide +kernel
theorem dX5_tour_105 : decode cX5_tour 105 = .ok (.ireturn, 1) := by decide +kernel
theorem dX5_tour_106 : decode cX5_tour 106 = .ok (.aload_n 3, 1) := by decide +kernel
theorem dX5_tour_107 : decode cX5_tour 107 = .ok (.getfield 127, 3) := by decide +kernel
theorem dX5_tour_110 : decode cX5_tour 110 = .ok (.ireturn, 1) := by decide +kernel
theorem dX5_tour_111 : decode cX5_tour 111 = .ok (.aload_n 3, 1) := by decide +kernel
theorem dX5_tour_112 : decode cX5_tour 112 = .ok (.getfield 127, 3) := by decide +kernel
theorem dX5_tour_115 : decode cX5_tour 115 = .ok (.iconst 2, 1) := by decide +kernel
theorem dX5_tour_116 : decode cX5_tour 116 = .ok (.if_icmp .ne 10, 3) := by decide +kernel
theorem dX5_tour_119 : decode cX5_tour 119 = .ok (.aload_n 3, 1) := by decide +kernel
theorem dX5_tour_120 : decode cX5_tour 120 = .ok (.getfield 250, 3) := by decide +kernel
theorem dX5_tour_123 : decode cX5_tour 123 = .ok (.goto 5, 3) := by decide +kernel
theorem dX5_tour_126 : decode cX5_tour 126 = .ok (.bipush (-5), 2) := by decide +kernel
theorem dX5_tour_128 : decode cX5_tour 128 = .ok (.ireturn, 1) := by decide +kernel
theorem dX5_tour_129 : decode cX5_tour 129 = .ok (.aload_n 0, 1) := by decide +kernel
theorem dX5_tour_130 : decode cX5_tour 130 = .ok (.getfield 10, 3) := by decide +kernel
theorem dX5_tour_133 : decode cX5_tour 133 = .ok (.aload_n 3, 1) := by decide +kernel
theorem dX5_tour_134 : decode cX5_tour 134 = .ok (.aload_n 3, 1) := by decide +kernel
theorem dX5_tour_135 : decode cX5_tour 135 = .ok (.getfield 151, 3) := by decide +kernel
theorem dX5_tour_138 : decode cX5_tour 138 = .ok (.invokevirtual 167, 3) := by decide +kernel
theorem dX5_tour_141 : decode cX5_tour 141 = .ok (.ireturn, 1) := by decide +kernel
theorem dX5_tour_142 : decode cX5_tour 142 = .ok (.aload_n 3, 1) := by decide +kernel
theorem dX5_tour_143 : decode cX5_tour 143 = .ok (.getfield 253, 3) := by decide +kernel
theorem dX5_tour_146 : decode cX5_tour 146 = .ok (.ireturn, 1) := by decide +kernel
theorem dX5_tour_147 : decode cX5_tour 147 = .ok (.aload_n 3, 1) := by decide +kernel
theorem dX5_tour_148 : decode cX5_tour 148 = .ok (.getfield 127, 3) := by decide +kernel
theorem dX5_tour_151 : decode cX5_tour 151 = .ok (.ifCond .ne 14, 3) := by decide +kernel
theorem dX5_tour_154 : decode cX5_tour 154 = .ok (.aload_n 0, 1) := by decide +kernel
theorem dX5_tour_155 : decode cX5_tour 155 = .ok (.getfield 10, 3) := by decide +kernel
theorem dX5_tour_158 : decode cX5_tour 158 = .ok (.aload_n 3, 1) := by decide +kernel
theorem dX5_tour_159 : decode cX5_tour 159 = .ok (.invokevirtual 256, 3) := by decide +kernel
theorem dX5_tour_162 : decode cX5_tour 162 = .ok (.goto 5, 3) := by decide +kernel
theorem dX5_tour_165 : decode cX5_tour 165 = .ok (.bipush (-5), 2) := by decide +kernel
theorem dX5_tour_167 : decode cX5_tour 167 = .ok (.ireturn, 1) := by decide +kernel
theorem dX5_tour_168 : decode cX5_tour 168 = .ok (.bipush (-2), 2) := by decide +kernel
theorem dX5_tour_170 : decode cX5_tour 170 = .ok (.ireturn, 1) := by decide +kernel
theorem dX5_rope_0 : decode cX5_rope 0 = .ok (.aload_n 0, 1) := by decide +kernel
theorem dX5_rope_1 : decode cX5_rope 1 = .ok (.getfield 10, 3) := by decide +kernel
theorem dX5_rope_4 : decode cX5_rope 4 = .ok (.iload_n 1, 1) := by decide +kernel
theorem dX5_rope_5 : decode cX5_rope 5 = .ok (.invokevirtual 120, 3) := by decide +kernel
theorem dX5_rope_8 : decode cX5_rope 8 = .ok (.astore 4, 2) := by decide +kernel
theorem dX5_rope_10 : decode cX5_rope 10 = .ok (.aload 4, 2) := by decide +kernel
theorem dX5_rope_12 : decode cX5_rope 12 = .ok (.ifnonnull 5, 3) := by decide +kernel
theorem dX5_rope_15 : decode cX5_rope 15 = .ok (.iconst (-1), 1) := by decide +kernel
theorem dX5_rope_16 : decode cX5_rope 16 = .ok (.ireturn, 1) := by decide +kernel
theorem dX5_rope_17 : decode cX5_rope 17 = .ok (.iload_n 2, 1) := by decide +kernel
theorem dX5_rope_18 : decode cX5_rope 18 = .ok (.ifCond .lt 12, 3) := by decide +kernel
theorem dX5_rope_21 : decode cX5_rope 21 = .ok (.iload_n 3, 1) := by decide +kernel
theorem dX5_rope_22 : decode cX5_rope 22 = .ok (.ifCond .lt 8, 3) := by decide +kernel
theorem dX5_rope_25 : decode cX5_rope 25 = .ok (.iload_n 3, 1) := by decide +kernel
theorem dX5_rope_26 : decode cX5_rope 26 = .ok (.iconst 2, 1) := by decide +kernel
theorem dX5_rope_27 : decode cX5_rope 27 = .ok (.if_icmp .le 6, 3) := by decide +kernel
theorem dX5_rope_30 : decode cX5_rope 30 = .ok (.bipush (-2), 2) := by decide +kernel
theorem dX5_rope_32 : decode cX5_rope 32 = .ok (.ireturn, 1) := by decide +kernel
theorem dX5_rope_33 : decode cX5_rope 33 = .ok (.iload_n 2, 1) := by decide +kernel
theorem dX5_rope_34 : decode cX5_rope 34 = .ok (.aload 4, 2) := by decide +kernel
theorem dX5_rope_36 : decode cX5_rope 36 = .ok (.getfield 151, 3) := by decide +kernel
theorem dX5_rope_39 : decode cX5_rope 39 = .ok (.if_icmp .lt 6, 3) := by decide +kernel
theorem dX5_rope_42 : decode cX5_rope 42 = .ok (.bipush (-5), 2) := by decide +kernel
theorem dX5_rope_44 : decode cX5_rope 44 = .ok (.ireturn, 1) := by decide +kernel
theorem dX5_rope_45 : decode cX5_rope 45 = .ok (.iload_n 3, 1) := by decide +kernel
theorem dX5_rope_46 : decode cX5_rope 46 = .ok (.ifCond .ne 11, 3) := by decide +kernel
theorem dX5_rope_49 : decode cX5_rope 49 = .ok (.aload 4, 2) := by decide +kernel
theorem dX5_rope_51 : decode cX5_rope 51 = .ok (.getfield 260, 3) := by decide +kernel
theorem dX5_rope_54 : decode cX5_rope 54 = .ok (.iload_n 2, 1) := by decide +kernel
theorem dX5_rope_55 : decode cX5_rope 55 = .ok (.iaload, 1) := by decide +kernel
theorem dX5_rope_56 : decode cX5_rope 56 = .ok (.ireturn, 1) := by decide +kernel
theorem dX5_rope_57 : decode cX5_rope 57 = .ok (.iload_n 3, 1) := by decide +kernel
theorem dX5_rope_58 : decode cX5_rope 58 = .ok (.iconst 1, 1) := by decide +kernel
theorem dX5_rope_59 : decode cX5_rope 59 = .ok (.if_icmp .ne 20, 3) := by decide +kernel
theorem dX5_rope_62 : decode cX5_rope 62 = .ok (.aload_n 0, 1) := by decide +kernel
theorem dX5_rope_63 : decode cX5_rope 63 = .ok (.getfield 10, 3) := by decide +kernel
theorem dX5_rope_66 : decode cX5_rope 66 = .ok (.aload 4, 2) := by decide +kernel
theorem dX5_rope_68 : decode cX5_rope 68 = .ok (.getfield 260, 3) := by decide +kernel
theorem dX5_rope_71 : decode cX5_rope 71 = .ok (.iload_n 2, 1) := by decide +kernel
theorem dX5_rope_72 : decode cX5_rope 72 = .ok (.iaload, 1) := by decide +kernel
theorem dX5_rope_73 : decode cX5_rope 73 = .ok (.aload 4, 2) := by decide +kernel
theorem dX5_rope_75 : decode cX5_rope 75 = .ok (.invokevirtual 157, 3) := by decide +kernel
theorem dX5_rope_78 : decode cX5_rope 78 = .ok (.ireturn, 1) := by decide +kernel
theorem dX5_rope_79 : decode cX5_rope 79 = .ok (.aload_n 0, 1) := by decide +kernel
theorem dX5_rope_80 : decode cX5_rope 80 = .ok (.getfield 10, 3) := by decide +kernel
theorem dX5_rope_83 : decode cX5_rope 83 = .ok (.aload 4, 2) := by decide +kernel
theorem dX5_rope_85 : decode cX5_rope 85 = .ok (.iload_n 2, 1) := by decide +kernel
theorem dX5_rope_86 : decode cX5_rope 86 = .ok (.invokevirtual 264, 3) := by decide +kernel
theorem dX5_rope_89 : decode cX5_rope 89 = .ok (.ireturn, 1) := by decide +kernel
theorem dX5_thickness_0 : decode cX5_thickness 0 = .ok (.aload_n 0, 1) := by decide +kernel
theorem dX5_thickness_1 : decode cX5_thickness 1 = .ok (.getfield 10, 3) := by decide +kernel
theorem dX5_thickness_4 : decode cX5_thickness 4 = .ok (.iload_n 1, 1) := by decide +kernel
theorem dX5_thickness_5 : decode cX5_thickness 5 = .ok (.invokevirtual 267, 3) := by decide +kernel
theorem dX5_thickness_8 : decode cX5_thickness 8 = .ok (.ifCond .eq 15, 3) := by decide +kernel
theorem dX5_thickness_11 : decode cX5_thickness 11 = .ok (.aload_n 0, 1) := by decide +kernel
theorem dX5_thickness_12 : decode cX5_thickness 12 = .ok (.getfield 10, 3) := by decide +kernel
theorem dX5_thickness_15 : decode cX5_thickness 15 = .ok (.getfield 80, 3) := by decide +kernel
theorem dX5_thickness_18 : decode cX5_thickness 18 = .ok (.iload_n 1, 1) := by decide +kernel
theorem dX5_thickness_19 : decode cX5_thickness 19 = .ok (.daload, 1) := by decide +kernel
theorem dX5_thickness_20 : decode cX5_thickness 20 = .ok (.goto 6, 3) := by decide +kernel
theorem dX5_thickness_23 : decode cX5_thickness 23 = .ok (.invokestatic 270, 3) := by decide +kernel
theorem dX5_thickness_26 : decode cX5_thickness 26 = .ok (.dreturn, 1) := by decide +kernel
theorem dX5_foretold_0 : decode cX5_foretold 0 = .ok (.aload_n 0, 1) := by decide +kernel
theorem dX5_foretold_1 : decode cX5_foretold 1 = .ok (.getfield 10, 3) := by decide +kernel
theorem dX5_foretold_4 : decode cX5_foretold 4 = .ok (.iload_n 1, 1) := by decide +kernel
theorem dX5_foretold_5 : decode cX5_foretold 5 = .ok (.invokevirtual 267, 3) := by decide +kernel
theorem dX5_foretold_8 : decode cX5_foretold 8 = .ok (.ifCond .eq 13, 3) := by decide +kernel
theorem dX5_foretold_11 : decode cX5_foretold 11 = .ok (.iload_n 2, 1) := by decide +kernel
theorem dX5_foretold_12 : decode cX5_foretold 12 = .ok (.ifCond .lt 9, 3) := by decide +kernel
theorem dX5_foretold_15 : decode cX5_foretold 15 = .ok (.iload_n 2, 1) := by decide +kernel
theorem dX5_foretold_16 : decode cX5_foretold 16 = .ok (.bipush 30, 2) := by decide +kernel
theorem dX5_foretold_18 : decode cX5_foretold 18 = .ok (.if_icmp .le 7, 3) := by decide +kernel
theorem dX5_foretold_21 : decode cX5_foretold 21 = .ok (.invokestatic 270, 3) := by decide +kernel
theorem dX5_foretold_24 : decode cX5_foretold 24 = .ok (.dreturn, 1) := by decide +kernel
theorem dX5_foretold_25 : decode cX5_foretold 25 = .ok (.aload_n 0, 1) := by decide +kernel
theorem dX5_foretold_26 : decode cX5_foretold 26 = .ok (.getfield 10, 3) := by decide +kernel
theorem dX5_foretold_29 : decode cX5_foretold 29 = .ok (.getfield 80, 3) := by decide +kernel
theorem dX5_foretold_32 : decode cX5_foretold 32 = .ok (.iload_n 1, 1) := by decide +kernel
theorem dX5_foretold_33 : decode cX5_foretold 33 = .ok (.daload, 1) := by decide +kernel
theorem dX5_foretold_34 : decode cX5_foretold 34 = .ok (.dstore_n 3, 1) := by decide +kernel
theorem dX5_foretold_35 : decode cX5_foretold 35 = .ok (.iconst 0, 1) := by decide +kernel
theorem dX5_foretold_36 : decode cX5_foretold 36 = .ok (.istore 5, 2) := by decide +kernel
theorem dX5_foretold_38 : decode cX5_foretold 38 = .ok (.iload 5, 2) := by decide +kernel
theorem dX5_foretold_40 : decode cX5_foretold 40 = .ok (.iload_n 2, 1) := by decide +kernel
theorem dX5_foretold_41 : decode cX5_foretold 41 = .ok (.if_icmp .ge 18, 3) := by decide +kernel
theorem dX5_foretold_44 : decode cX5_foretold 44 = .ok (.aload_n 0, 1) := by decide +kernel
theorem dX5_foretold_45 : decode cX5_foretold 45 = .ok (.getfield 10, 3) := by decide +kernel
theorem dX5_foretold_48 : decode cX5_foretold 48 = .ok (.dload_n 3, 1) := by decide +kernel
theorem dX5_foretold_49 : decode cX5_foretold 49 = .ok (.invokevirtual 274, 3) := by decide +kernel
theorem dX5_foretold_52 : decode cX5_foretold 52 = .ok (.dstore_n 3, 1) := by decide +kernel
theorem dX5_foretold_53 : decode cX5_foretold 53 = .ok (.iinc 5 1, 3) := by decide +kernel
theorem dX5_foretold_56 : decode cX5_foretold 56 = .ok (.goto (-18), 3) := by decide +kernel
theorem dX5_foretold_59 : decode cX5_foretold 59 = .ok (.dload_n 3, 1) := by decide +kernel
theorem dX5_foretold_60 : decode cX5_foretold 60 = .ok (.dreturn, 1) := by decide +kernel
theorem dX5_needed_0 : decode cX5_needed 0 = .ok (.aload_n 0, 1) := by decide +kernel
theorem dX5_needed_1 : decode cX5_needed 1 = .ok (.getfield 10, 3) := by decide +kernel
theorem dX5_needed_4 : decode cX5_needed 4 = .ok (.iload_n 1, 1) := by decide +kernel
theorem dX5_needed_5 : decode cX5_needed 5 = .ok (.invokevirtual 120, 3) := by decide +kernel
theorem dX5_needed_8 : decode cX5_needed 8 = .ok (.astore_n 2, 1) := by decide +kernel
theorem dX5_needed_9 : decode cX5_needed 9 = .ok (.aload_n 2, 1) := by decide +kernel
theorem dX5_needed_10 : decode cX5_needed 10 = .ok (.ifnonnull 9, 3) := by decide +kernel
theorem dX5_needed_13 : decode cX5_needed 13 = .ok (.invokestatic 270, 3) := by decide +kernel
theorem dX5_needed_16 : decode cX5_needed 16 = .ok (.goto 11, 3) := by decide +kernel
theorem dX5_needed_19 : decode cX5_needed 19 = .ok (.aload_n 0, 1) := by decide +kernel
theorem dX5_needed_20 : decode cX5_needed 20 = .ok (.getfield 10, 3) := by decide +kernel
theorem dX5_needed_23 : decode cX5_needed 23 = .ok (.aload_n 2, 1) := by decide +kernel
theorem dX5_needed_24 : decode cX5_needed 24 = .ok (.invokevirtual 278, 3) := by decide +kernel
theorem dX5_needed_27 : decode cX5_needed 27 = .ok (.dreturn, 1) := by decide +kernel
theorem dX5_holds_0 : decode cX5_holds 0 = .ok (.aload_n 0, 1) := by decide +kernel
theorem dX5_holds_1 : decode cX5_holds 1 = .ok (.getfield 10, 3) := by decide +kernel
theorem dX5_holds_4 : decode cX5_holds 4 = .ok (.iload_n 1, 1) := by decide +kernel
theorem dX5_holds_5 : decode cX5_holds 5 = .ok (.invokevirtual 120, 3) := by decide +kernel
theorem dX5_holds_8 : decode cX5_holds 8 = .ok (.astore_n 3, 1) := by decide +kernel
theorem dX5_holds_9 : decode cX5_holds 9 = .ok (.aload_n 3, 1) := by decide +kernel
theorem dX5_holds_10 : decode cX5_holds 10 = .ok (.ifnull 14, 3) := by decide +kernel
theorem dX5_holds_13 : decode cX5_holds 13 = .ok (.aload_n 0, 1) := by decide +kernel
theorem dX5_holds_14 : decode cX5_holds 14 = .ok (.getfield 10, 3) := by decide +kernel
theorem dX5_holds_17 : decode cX5_holds 17 = .ok (.iload_n 2, 1) := by decide +kernel
theorem dX5_holds_18 : decode cX5_holds 18 = .ok (.invokevirtual 267, 3) := by decide +kernel
theorem dX5_holds_21 : decode cX5_holds 21 = .ok (.ifCond .ne 5, 3) := by decide +kernel
theorem dX5_holds_24 : decode cX5_holds 24 = .ok (.iconst (-1), 1) := by decide +kernel
theorem dX5_holds_25 : decode cX5_holds 25 = .ok (.ireturn, 1) := by decide +kernel
theorem dX5_holds_26 : decode cX5_holds 26 = .ok (.aload_n 0, 1) := by decide +kernel
theorem dX5_holds_27 : decode cX5_holds 27 = .ok (.getfield 10, 3) := by decide +kernel
theorem dX5_holds_30 : decode cX5_holds 30 = .ok (.getfield 80, 3) := by decide +kernel
theorem dX5_holds_33 : decode cX5_holds 33 = .ok (.iload_n 2, 1) := by decide +kernel
theorem dX5_holds_34 : decode cX5_holds 34 = .ok (.daload, 1) := by decide +kernel
theorem dX5_holds_35 : decode cX5_holds 35 = .ok (.aload_n 0, 1) := by decide +kernel
theorem dX5_holds_36 : decode cX5_holds 36 = .ok (.getfield 10, 3) := by decide +kernel
theorem dX5_holds_39 : decode cX5_holds 39 = .ok (.aload_n 3, 1) := by decide +kernel
theorem dX5_holds_40 : decode cX5_holds 40 = .ok (.invokevirtual 278, 3) := by decide +kernel
theorem dX5_holds_43 : decode cX5_holds 43 = .ok (.dcmp .l, 1) := by decide +kernel
theorem dX5_holds_44 : decode cX5_holds 44 = .ok (.ifCond .lt 7, 3) := by decide +kernel
theorem dX5_holds_47 : decode cX5_holds 47 = .ok (.iconst 1, 1) := by decide +kernel
theorem dX5_holds_48 : decode cX5_holds 48 = .ok (.goto 4, 3) := by decide +kernel
theorem dX5_holds_51 : decode cX5_holds 51 = .ok (.iconst 0, 1) := by decide +kernel
theorem dX5_holds_52 : decode cX5_holds 52 = .ok (.ireturn, 1) := by decide +kernel
theorem dX5_bestGuide_0 : decode cX5_bestGuide 0 = .ok (.aload_n 0, 1) := by decide +kernel
theorem dX5_bestGuide_1 : decode cX5_bestGuide 1 = .ok (.getfield 10, 3) := by decide +kernel
theorem dX5_bestGuide_4 : decode cX5_bestGuide 4 = .ok (.iload_n 1, 1) := by decide +kernel
theorem dX5_bestGuide_5 : decode cX5_bestGuide 5 = .ok (.invokevirtual 120, 3) := by decide +kernel
theorem dX5_bestGuide_8 : decode cX5_bestGuide 8 = .ok (.astore_n 2, 1) := by decide +kernel
theorem dX5_bestGuide_9 : decode cX5_bestGuide 9 = .ok (.aload_n 2, 1) := by decide +kernel
theorem dX5_bestGuide_10 : decode cX5_bestGuide 10 = .ok (.ifnonnull 5, 3) := by decide +kernel
theorem dX5_bestGuide_13 : decode cX5_bestGuide 13 = .ok (.iconst (-1), 1) := by decide +kernel
theorem dX5_bestGuide_14 : decode cX5_bestGuide 14 = .ok (.ireturn, 1) := by decide +kernel
theorem dX5_bestGuide_15 : decode cX5_bestGuide 15 = .ok (.aload_n 2, 1) := by decide +kernel
theorem dX5_bestGuide_16 : decode cX5_bestGuide 16 = .ok (.getfield 151, 3) := by decide +kernel
theorem dX5_bestGuide_19 : decode cX5_bestGuide 19 = .ok (.iconst 4, 1) := by decide +kernel
theorem dX5_bestGuide_20 : decode cX5_bestGuide 20 = .ok (.if_icmp .lt 6, 3) := by decide +kernel
theorem dX5_bestGuide_23 : decode cX5_bestGuide 23 = .ok (.bipush (-5), 2) := by decide +kernel
theorem dX5_bestGuide_25 : decode cX5_bestGuide 25 = .ok (.ireturn, 1) := by decide +kernel
theorem dX5_bestGuide_26 : decode cX5_bestGuide 26 = .ok (.bipush (-5), 2) := by decide +kernel
theorem dX5_bestGuide_28 : decode cX5_bestGuide 28 = .ok (.istore_n 3, 1) := by decide +kernel
theorem dX5_bestGuide_29 : decode cX5_bestGuide 29 = .ok (.iconst 0, 1) := by decide +kernel
theorem dX5_bestGuide_30 : decode cX5_bestGuide 30 = .ok (.istore 4, 2) := by decide +kernel
theorem dX5_bestGuide_32 : decode cX5_bestGuide 32 = .ok (.iconst 0, 1) := by decide +kernel
theorem dX5_bestGuide_33 : decode cX5_bestGuide 33 = .ok (.istore 5, 2) := by decide +kernel
theorem dX5_bestGuide_35 : decode cX5_bestGuide 35 = .ok (.iload 5, 2) := by decide +kernel
theorem dX5_bestGuide_37 : decode cX5_bestGuide 37 = .ok (.aload_n 0, 1) := by decide +kernel
theorem dX5_bestGuide_38 : decode cX5_bestGuide 38 = .ok (.getfield 10, 3) := by decide +kernel
theorem dX5_bestGuide_41 : decode cX5_bestGuide 41 = .ok (.getfield 40, 3) := by decide +kernel
theorem dX5_bestGuide_44 : decode cX5_bestGuide 44 = .ok (.if_icmp .ge 52, 3) := by decide +kernel
theorem dX5_bestGuide_47 : decode cX5_bestGuide 47 = .ok (.aload_n 0, 1) := by decide +kernel
theorem dX5_bestGuide_48 : decode cX5_bestGuide 48 = .ok (.getfield 10, 3) := by decide +kernel
theorem dX5_bestGuide_51 : decode cX5_bestGuide 51 = .ok (.iload 5, 2) := by decide +kernel
theorem dX5_bestGuide_53 : decode cX5_bestGuide 53 = .ok (.aload_n 2, 1) := by decide +kernel
theorem dX5_bestGuide_54 : decode cX5_bestGuide 54 = .ok (.invokevirtual 147, 3) := by decide +kernel
theorem dX5_bestGuide_57 : decode cX5_bestGuide 57 = .ok (.ifCond .eq 33, 3) := by decide +kernel
theorem dX5_bestGuide_60 : decode cX5_bestGuide 60 = .ok (.aload_n 0, 1) := by decide +kernel
theorem dX5_bestGuide_61 : decode cX5_bestGuide 61 = .ok (.getfield 10, 3) := by decide +kernel
theorem dX5_bestGuide_64 : decode cX5_bestGuide 64 = .ok (.iload 5, 2) := by decide +kernel
theorem dX5_bestGuide_66 : decode cX5_bestGuide 66 = .ok (.aload_n 2, 1) := by decide +kernel
theorem dX5_bestGuide_67 : decode cX5_bestGuide 67 = .ok (.invokevirtual 157, 3) := by decide +kernel
theorem dX5_bestGuide_70 : decode cX5_bestGuide 70 = .ok (.iload 4, 2) := by decide +kernel
theorem dX5_bestGuide_72 : decode cX5_bestGuide 72 = .ok (.if_icmp .le 18, 3) := by decide +kernel
theorem dX5_bestGuide_75 : decode cX5_bestGuide 75 = .ok (.iload 5, 2) := by decide +kernel
theorem dX5_bestGuide_77 : decode cX5_bestGuide 77 = .ok (.istore_n 3, 1) := by decide +kernel
theorem dX5_bestGuide_78 : decode cX5_bestGuide 78 = .ok (.aload_n 0, 1) := by decide +kernel
theorem dX5_bestGuide_79 : decode cX5_bestGuide 79 = .ok (.getfield 10, 3) := by decide +kernel
theorem dX5_bestGuide_82 : decode cX5_bestGuide 82 = .ok (.iload 5, 2) := by decide +kernel
theorem dX5_bestGuide_84 : decode cX5_bestGuide 84 = .ok (.aload_n 2, 1) := by decide +kernel
theorem dX5_bestGuide_85 : decode cX5_bestGuide 85 = .ok (.invokevirtual 157, 3) := by decide +kernel
theorem dX5_bestGuide_88 : decode cX5_bestGuide 88 = .ok (.istore 4, 2) := by decide +kernel
theorem dX5_bestGuide_90 : decode cX5_bestGuide 90 = .ok (.iinc 5 1, 3) := by decide +kernel
theorem dX5_bestGuide_93 : decode cX5_bestGuide 93 = .ok (.goto (-58), 3) := by decide +kernel
theorem dX5_bestGuide_96 : decode cX5_bestGuide 96 = .ok (.iload_n 3, 1) := by decide +kernel
theorem dX5_bestGuide_97 : decode cX5_bestGuide 97 = .ok (.ireturn, 1) := by decide +kernel
theorem dX5_takes_0 : decode cX5_takes 0 = .ok (.aload_n 0, 1) := by decide +kernel
theorem dX5_takes_1 : decode cX5_takes 1 = .ok (.getfield 10, 3) := by decide +kernel
theorem dX5_takes_4 : decode cX5_takes 4 = .ok (.iload_n 2, 1) := by decide +kernel
theorem dX5_takes_5 : decode cX5_takes 5 = .ok (.invokevirtual 58, 3) := by decide +kernel
theorem dX5_takes_8 : decode cX5_takes 8 = .ok (.astore_n 3, 1) := by decide +kernel
theorem dX5_takes_9 : decode cX5_takes 9 = .ok (.aload_n 3, 1) := by decide +kernel
theorem dX5_takes_10 : decode cX5_takes 10 = .ok (.ifnonnull 5, 3) := by decide +kernel
theorem dX5_takes_13 : decode cX5_takes 13 = .ok (.iconst (-1), 1) := by decide +kernel
theorem dX5_takes_14 : decode cX5_takes 14 = .ok (.ireturn, 1) := by decide +kernel
theorem dX5_takes_15 : decode cX5_takes 15 = .ok (.iload_n 1, 1) := by decide +kernel
theorem dX5_takes_16 : decode cX5_takes 16 = .ok (.invokestatic 33, 3) := by decide +kernel
theorem dX5_takes_19 : decode cX5_takes 19 = .ok (.ifCond .ne 6, 3) := by decide +kernel
theorem dX5_takes_22 : decode cX5_takes 22 = .ok (.bipush (-2), 2) := by decide +kernel
theorem dX5_takes_24 : decode cX5_takes 24 = .ok (.ireturn, 1) := by decide +kernel
theorem dX5_takes_25 : decode cX5_takes 25 = .ok (.aload_n 3, 1) := by decide +kernel
theorem dX5_takes_26 : decode cX5_takes 26 = .ok (.getfield 62, 3) := by decide +kernel
theorem dX5_takes_29 : decode cX5_takes 29 = .ok (.iload_n 1, 1) := by decide +kernel
theorem dX5_takes_30 : decode cX5_takes 30 = .ok (.if_icmp .ne 7, 3) := by decide +kernel
theorem dX5_takes_33 : decode cX5_takes 33 = .ok (.iconst 1, 1) := by decide +kernel
theorem dX5_takes_34 : decode cX5_takes 34 = .ok (.goto 4, 3) := by decide +kernel
theorem dX5_takes_37 : decode cX5_takes 37 = .ok (.iconst 0, 1) := by decide +kernel
theorem dX5_takes_38 : decode cX5_takes 38 = .ok (.ireturn, 1) := by decide +kernel
theorem dX5_count_0 : decode cX5_count 0 = .ok (.iload_n 1, 1) := by decide +kernel
theorem dX5_count_1 : decode cX5_count 1 = .ok (.tableswitch 175 0 12 #[67, 75, 83, 91, 99, 108, 117, 126, 135, 143, 151, 159, 167], 67) := by decide +kernel
theorem dX5_count_68 : decode cX5_count 68 = .ok (.aload_n 0, 1) := by decide +kernel
theorem dX5_count_69 : decode cX5_count 69 = .ok (.getfield 10, 3) := by decide +kernel
theorem dX5_count_72 : decode cX5_count 72 = .ok (.getfield 100, 3) := by decide +kernel
theorem dX5_count_75 : decode cX5_count 75 = .ok (.ireturn, 1) := by decide +kernel
theorem dX5_count_76 : decode cX5_count 76 = .ok (.aload_n 0, 1) := by decide +kernel
theorem dX5_count_77 : decode cX5_count 77 = .ok (.getfield 10, 3) := by decide +kernel
theorem dX5_count_80 : decode cX5_count 80 = .ok (.getfield 40, 3) := by decide +kernel
theorem dX5_count_83 : decode cX5_count 83 = .ok (.ireturn, 1) := by decide +kernel
theorem dX5_count_84 : decode cX5_count 84 = .ok (.aload_n 0, 1) := by decide +kernel
theorem dX5_count_85 : decode cX5_count 85 = .ok (.getfield 10, 3) := by decide +kernel
theorem dX5_count_88 : decode cX5_count 88 = .ok (.getfield 77, 3) := by decide +kernel
theorem dX5_count_91 : decode cX5_count 91 = .ok (.ireturn, 1) := by decide +kernel
theorem dX5_count_92 : decode cX5_count 92 = .ok (.aload_n 0, 1) := by decide +kernel
theorem dX5_count_93 : decode cX5_count 93 = .ok (.getfield 10, 3) := by decide +kernel
theorem dX5_count_96 : decode cX5_count 96 = .ok (.getfield 108, 3) := by decide +kernel
theorem dX5_count_99 : decode cX5_count 99 = .ok (.ireturn, 1) := by decide +kernel
theorem dX5_count_100 : decode cX5_count 100 = .ok (.aload_n 0, 1) := by decide +kernel
theorem dX5_count_101 : decode cX5_count 101 = .ok (.getfield 10, 3) := by decide +kernel
theorem dX5_count_104 : decode cX5_count 104 = .ok (.iconst 0, 1) := by decide +kernel
theorem dX5_count_105 : decode cX5_count 105 = .ok (.invokevirtual 282, 3) := by decide +kernel
theorem dX5_count_108 : decode cX5_count 108 = .ok (.ireturn, 1) := by decide +kernel
theorem dX5_count_109 : decode cX5_count 109 = .ok (.aload_n 0, 1) := by decide +kernel
theorem dX5_count_110 : decode cX5_count 110 = .ok (.getfield 10, 3) := by decide +kernel
theorem dX5_count_113 : decode cX5_count 113 = .ok (.iconst 1, 1) := by decide +kernel
theorem dX5_count_114 : decode cX5_count 114 = .ok (.invokevirtual 282, 3) := by decide +kernel
theorem dX5_count_117 : decode cX5_count 117 = .ok (.ireturn, 1) := by decide +kernel
theorem dX5_count_118 : decode cX5_count 118 = .ok (.aload_n 0, 1) := by decide +kernel
theorem dX5_count_119 : decode cX5_count 119 = .ok (.getfield 10, 3) := by decide +kernel
theorem dX5_count_122 : decode cX5_count 122 = .ok (.iconst 2, 1) := by decide +kernel
theorem dX5_count_123 : decode cX5_count 123 = .ok (.invokevirtual 282, 3) := by decide +kernel
theorem dX5_count_126 : decode cX5_count 126 = .ok (.ireturn, 1) := by decide +kernel
theorem dX5_count_127 : decode cX5_count 127 = .ok (.aload_n 0, 1) := by decide +kernel
theorem dX5_count_128 : decode cX5_count 128 = .ok (.getfield 10, 3) := by decide +kernel
theorem dX5_count_131 : decode cX5_count 131 = .ok (.iconst 3, 1) := by decide +kernel
theorem dX5_count_132 : decode cX5_count 132 = .ok (.invokevirtual 282, 3) := by decide +kernel
theorem dX5_count_135 : decode cX5_count 135 = .ok (.ireturn, 1) := by decide +kernel
theorem dX5_count_136 : decode cX5_count 136 = .ok (.aload_n 0, 1) := by decide +kernel
theorem dX5_count_137 : decode cX5_count 137 = .ok (.getfield 10, 3) := by decide +kernel
theorem dX5_count_140 : decode cX5_count 140 = .ok (.invokevirtual 285, 3) := by decide +kernel
theorem dX5_count_143 : decode cX5_count 143 = .ok (.ireturn, 1) := by decide +kernel
theorem dX5_count_144 : decode cX5_count 144 = .ok (.aload_n 0, 1) := by decide +kernel
theorem dX5_count_145 : decode cX5_count 145 = .ok (.getfield 10, 3) := by decide +kernel
theorem dX5_count_148 : decode cX5_count 148 = .ok (.getfield 288, 3) := by decide +kernel
theorem dX5_count_151 : decode cX5_count 151 = .ok (.ireturn, 1) := by decide +kernel
theorem dX5_count_152 : decode cX5_count 152 = .ok (.aload_n 0, 1) := by decide +kernel
theorem dX5_count_153 : decode cX5_count 153 = .ok (.getfield 10, 3) := by decide +kernel
theorem dX5_count_156 : decode cX5_count 156 = .ok (.invokevirtual 291, 3) := by decide +kernel
theorem dX5_count_159 : decode cX5_count 159 = .ok (.ireturn, 1) := by decide +kernel
theorem dX5_count_160 : decode cX5_count 160 = .ok (.aload_n 0, 1) := by decide +kernel
theorem dX5_count_161 : decode cX5_count 161 = .ok (.getfield 22, 3) := by decide +kernel
theorem dX5_count_164 : decode cX5_count 164 = .ok (.getfield 221, 3) := by decide +kernel
theorem dX5_count_167 : decode cX5_count 167 = .ok (.ireturn, 1) := by decide +kernel
theorem dX5_count_168 : decode cX5_count 168 = .ok (.aload_n 0, 1) := by decide +kernel
theorem dX5_count_169 : decode cX5_count 169 = .ok (.getfield 29, 3) := by decide +kernel
theorem dX5_count_172 : decode cX5_count 172 = .ok (.getfield 186, 3) := by decide +kernel
theorem dX5_count_175 : decode cX5_count 175 = .ok (.ireturn, 1) := by decide +kernel
theorem dX5_count_176 : decode cX5_count 176 = .ok (.bipush (-2), 2) := by decide +kernel
theorem dX5_count_178 : decode cX5_count 178 = .ok (.ireturn, 1) := by decide +kernel
theorem dX5_temperature_0 : decode cX5_temperature 0 = .ok (.aload_n 0, 1) := by decide +kernel
theorem dX5_temperature_1 : decode cX5_temperature 1 = .ok (.getfield 10, 3) := by decide +kernel
theorem dX5_temperature_4 : decode cX5_temperature 4 = .ok (.getfield 96, 3) := by decide +kernel
theorem dX5_temperature_7 : decode cX5_temperature 7 = .ok (.lreturn, 1) := by decide +kernel
theorem dX5_isClass_0 : decode cX5_isClass 0 = .ok (.iload_n 0, 1) := by decide +kernel
theorem dX5_isClass_1 : decode cX5_isClass 1 = .ok (.iconst 1, 1) := by decide +kernel
theorem dX5_isClass_2 : decode cX5_isClass 2 = .ok (.if_icmp .lt 12, 3) := by decide +kernel
theorem dX5_isClass_5 : decode cX5_isClass 5 = .ok (.iload_n 0, 1) := by decide +kernel
theorem dX5_isClass_6 : decode cX5_isClass 6 = .ok (.iconst 3, 1) := by decide +kernel
theorem dX5_isClass_7 : decode cX5_isClass 7 = .ok (.if_icmp .gt 7, 3) := by decide +kernel
theorem dX5_isClass_10 : decode cX5_isClass 10 = .ok (.iconst 1, 1) := by decide +kernel
theorem dX5_isClass_11 : decode cX5_isClass 11 = .ok (.goto 4, 3) := by decide +kernel
theorem dX5_isClass_14 : decode cX5_isClass 14 = .ok (.iconst 0, 1) := by decide +kernel
theorem dX5_isClass_15 : decode cX5_isClass 15 = .ok (.ireturn, 1) := by decide +kernel
theorem dX5_isLastDay_0 : decode cX5_isLastDay 0 = .ok (.iload_n 0, 1) := by decide +kernel
theorem dX5_isLastDay_1 : decode cX5_isLastDay 1 = .ok (.ifCond .lt 14, 3) := by decide +kernel
theorem dX5_isLastDay_4 : decode cX5_isLastDay 4 = .ok (.iload_n 0, 1) := by decide +kernel
theorem dX5_isLastDay_5 : decode cX5_isLastDay 5 = .ok (.sipush 999, 3) := by decide +kernel
theorem dX5_isLastDay_8 : decode cX5_isLastDay 8 = .ok (.if_icmp .gt 7, 3) := by decide +kernel
theorem dX5_isLastDay_11 : decode cX5_isLastDay 11 = .ok (.iconst 1, 1) := by decide +kernel
theorem dX5_isLastDay_12 : decode cX5_isLastDay 12 = .ok (.goto 4, 3) := by decide +kernel
theorem dX5_isLastDay_15 : decode cX5_isLastDay 15 = .ok (.iconst 0, 1) := by decide +kernel
theorem dX5_isLastDay_16 : decode cX5_isLastDay 16 = .ok (.ireturn, 1) := by decide +kernel
theorem dX5_isGuests_0 : decode cX5_isGuests 0 = .ok (.iload_n 0, 1) := by decide +kernel
theorem dX5_isGuests_1 : decode cX5_isGuests 1 = .ok (.iconst 1, 1) := by decide +kernel
theorem dX5_isGuests_2 : decode cX5_isGuests 2 = .ok (.if_icmp .lt 13, 3) := by decide +kernel
theorem dX5_isGuests_5 : decode cX5_isGuests 5 = .ok (.iload_n 0, 1) := by decide +kernel
theorem dX5_isGuests_6 : decode cX5_isGuests 6 = .ok (.bipush 12, 2) := by decide +kernel
theorem dX5_isGuests_8 : decode cX5_isGuests 8 = .ok (.if_icmp .gt 7, 3) := by decide +kernel
theorem dX5_isGuests_11 : decode cX5_isGuests 11 = .ok (.iconst 1, 1) := by decide +kernel
theorem dX5_isGuests_12 : decode cX5_isGuests 12 = .ok (.goto 4, 3) := by decide +kernel
theorem dX5_isGuests_15 : decode cX5_isGuests 15 = .ok (.iconst 0, 1) := by decide +kernel
theorem dX5_isGuests_16 : decode cX5_isGuests 16 = .ok (.ireturn, 1) := by decide +kernel
theorem dX5_isFromZeroTo_0 : decode cX5_isFromZeroTo 0 = .ok (.lload_n 2, 1) := by decide +kernel
theorem dX5_isFromZeroTo_1 : decode cX5_isFromZeroTo 1 = .ok (.lconst 0, 1) := by decide +kernel
theorem dX5_isFromZeroTo_2 : decode cX5_isFromZeroTo 2 = .ok (.lcmp, 1) := by decide +kernel
theorem dX5_isFromZeroTo_3 : decode cX5_isFromZeroTo 3 = .ok (.ifCond .lt 13, 3) := by decide +kernel
theorem dX5_isFromZeroTo_6 : decode cX5_isFromZeroTo 6 = .ok (.lload_n 2, 1) := by decide +kernel
theorem dX5_isFromZeroTo_7 : decode cX5_isFromZeroTo 7 = .ok (.lload_n 0, 1) := by decide +kernel
theorem dX5_isFromZeroTo_8 : decode cX5_isFromZeroTo 8 = .ok (.lcmp, 1) := by decide +kernel
theorem dX5_isFromZeroTo_9 : decode cX5_isFromZeroTo 9 = .ok (.ifCond .gt 7, 3) := by decide +kernel
theorem dX5_isFromZeroTo_12 : decode cX5_isFromZeroTo 12 = .ok (.iconst 1, 1) := by decide +kernel
theorem dX5_isFromZeroTo_13 : decode cX5_isFromZeroTo 13 = .ok (.goto 4, 3) := by decide +kernel
theorem dX5_isFromZeroTo_16 : decode cX5_isFromZeroTo 16 = .ok (.iconst 0, 1) := by decide +kernel
theorem dX5_isFromZeroTo_17 : decode cX5_isFromZeroTo 17 = .ok (.ireturn, 1) := by decide +kernel
theorem dX5_isTemperature_0 : decode cX5_isTemperature 0 = .ok (.lload_n 0, 1) := by decide +kernel
theorem dX5_isTemperature_1 : decode cX5_isTemperature 1 = .ok (.lconst 0, 1) := by decide +kernel
theorem dX5_isTemperature_2 : decode cX5_isTemperature 2 = .ok (.lcmp, 1) := by decide +kernel
theorem dX5_isTemperature_3 : decode cX5_isTemperature 3 = .ok (.ifCond .ge 17, 3) := by decide +kernel
theorem dX5_isTemperature_6 : decode cX5_isTemperature 6 = .ok (.ldc2_w 294, 3) := by decide +kernel
theorem dX5_isTemperature_9 : decode cX5_isTemperature 9 = .ok (.lload_n 0, 1) := by decide +kernel
theorem dX5_isTemperature_10 : decode cX5_isTemperature 10 = .ok (.ldc2_w 296, 3) := by decide +kernel
theorem dX5_isTemperature_13 : decode cX5_isTemperature 13 = .ok (.land, 1) := by decide +kernel
theorem dX5_isTemperature_14 : decode cX5_isTemperature 14 = .ok (.invokestatic 73, 3) := by decide +kernel
theorem dX5_isTemperature_17 : decode cX5_isTemperature 17 = .ok (.goto 10, 3) := by decide +kernel
theorem dX5_isTemperature_20 : decode cX5_isTemperature 20 = .ok (.ldc2_w 298, 3) := by decide +kernel
theorem dX5_isTemperature_23 : decode cX5_isTemperature 23 = .ok (.lload_n 0, 1) := by decide +kernel
theorem dX5_isTemperature_24 : decode cX5_isTemperature 24 = .ok (.invokestatic 73, 3) := by decide +kernel
theorem dX5_isTemperature_27 : decode cX5_isTemperature 27 = .ok (.ireturn, 1) := by decide +kernel
theorem dX5_numberOf_0 : decode cX5_numberOf 0 = .ok (.lload_n 0, 1) := by decide +kernel
theorem dX5_numberOf_1 : decode cX5_numberOf 1 = .ok (.bipush 52, 2) := by decide +kernel
theorem dX5_numberOf_3 : decode cX5_numberOf 3 = .ok (.lushr, 1) := by decide +kernel
theorem dX5_numberOf_4 : decode cX5_numberOf 4 = .ok (.l2i, 1) := by decide +kernel
theorem dX5_numberOf_5 : decode cX5_numberOf 5 = .ok (.sipush 2047, 3) := by decide +kernel
theorem dX5_numberOf_8 : decode cX5_numberOf 8 = .ok (.iand, 1) := by decide +kernel
theorem dX5_numberOf_9 : decode cX5_numberOf 9 = .ok (.istore_n 2, 1) := by decide +kernel
theorem dX5_numberOf_10 : decode cX5_numberOf 10 = .ok (.lload_n 0, 1) := by decide +kernel
theorem dX5_numberOf_11 : decode cX5_numberOf 11 = .ok (.ldc2_w 300, 3) := by decide +kernel
theorem dX5_numberOf_14 : decode cX5_numberOf 14 = .ok (.land, 1) := by decide +kernel
theorem dX5_numberOf_15 : decode cX5_numberOf 15 = .ok (.lstore_n 3, 1) := by decide +kernel
theorem dX5_numberOf_16 : decode cX5_numberOf 16 = .ok (.iload_n 2, 1) := by decide +kernel
theorem dX5_numberOf_17 : decode cX5_numberOf 17 = .ok (.ifCond .ne 17, 3) := by decide +kernel
theorem dX5_numberOf_20 : decode cX5_numberOf 20 = .ok (.lload_n 3, 1) := by decide +kernel
theorem dX5_numberOf_21 : decode cX5_numberOf 21 = .ok (.l2d, 1) := by decide +kernel
theorem dX5_numberOf_22 : decode cX5_numberOf 22 = .ok (.sipush 1074, 3) := by decide +kernel
theorem dX5_numberOf_25 : decode cX5_numberOf 25 = .ok (.invokestatic 302, 3) := by decide +kernel
theorem dX5_numberOf_28 : decode cX5_numberOf 28 = .ok (.dmul, 1) := by decide +kernel
theorem dX5_numberOf_29 : decode cX5_numberOf 29 = .ok (.dstore 5, 2) := by decide +kernel
theorem dX5_numberOf_31 : decode cX5_numberOf 31 = .ok (.goto 20, 3) := by decide +kernel
theorem dX5_numberOf_34 : decode cX5_numberOf 34 = .ok (.lload_n 3, 1) := by decide +kernel
theorem dX5_numberOf_35 : decode cX5_numberOf 35 = .ok (.ldc2_w 306, 3) := by decide +kernel
theorem dX5_numberOf_38 : decode cX5_numberOf 38 = .ok (.lor, 1) := by decide +kernel
theorem dX5_numberOf_39 : decode cX5_numberOf 39 = .ok (.l2d, 1) := by decide +kernel
theorem dX5_numberOf_40 : decode cX5_numberOf 40 = .ok (.sipush 1075, 3) := by decide +kernel
theorem dX5_numberOf_43 : decode cX5_numberOf 43 = .ok (.iload_n 2, 1) := by decide +kernel
theorem dX5_numberOf_44 : decode cX5_numberOf 44 = .ok (.isub, 1) := by decide +kernel
theorem dX5_numberOf_45 : decode cX5_numberOf 45 = .ok (.invokestatic 302, 3) := by decide +kernel
theorem dX5_numberOf_48 : decode cX5_numberOf 48 = .ok (.dmul, 1) := by decide +kernel
theorem dX5_numberOf_49 : decode cX5_numberOf 49 = .ok (.dstore 5, 2) := by decide +kernel
theorem dX5_numberOf_51 : decode cX5_numberOf 51 = .ok (.lload_n 0, 1) := by decide +kernel
theorem dX5_numberOf_52 : decode cX5_numberOf 52 = .ok (.lconst 0, 1) := by decide +kernel
theorem dX5_numberOf_53 : decode cX5_numberOf 53 = .ok (.lcmp, 1) := by decide +kernel
theorem dX5_numberOf_54 : decode cX5_numberOf 54 = .ok (.ifCond .ge 9, 3) := by decide +kernel
theorem dX5_numberOf_57 : decode cX5_numberOf 57 = .ok (.dload 5, 2) := by decide +kernel
theorem dX5_numberOf_59 : decode cX5_numberOf 59 = .ok (.dneg, 1) := by decide +kernel
theorem dX5_numberOf_60 : decode cX5_numberOf 60 = .ok (.goto 5, 3) := by decide +kernel
theorem dX5_numberOf_63 : decode cX5_numberOf 63 = .ok (.dload 5, 2) := by decide +kernel
theorem dX5_numberOf_65 : decode cX5_numberOf 65 = .ok (.dreturn, 1) := by decide +kernel
theorem dX5_halved_0 : decode cX5_halved 0 = .ok (.dconst 1, 1) := by decide +kernel
theorem dX5_halved_1 : decode cX5_halved 1 = .ok (.dstore_n 1, 1) := by decide +kernel
theorem dX5_halved_2 : decode cX5_halved 2 = .ok (.ldc2_w 308, 3) := by decide +kernel
theorem dX5_halved_5 : decode cX5_halved 5 = .ok (.dstore_n 3, 1) := by decide +kernel
theorem dX5_halved_6 : decode cX5_halved 6 = .ok (.iconst 0, 1) := by decide +kernel
theorem dX5_halved_7 : decode cX5_halved 7 = .ok (.istore 5, 2) := by decide +kernel
theorem dX5_halved_9 : decode cX5_halved 9 = .ok (.iload 5, 2) := by decide +kernel
theorem dX5_halved_11 : decode cX5_halved 11 = .ok (.bipush 11, 2) := by decide +kernel
theorem dX5_halved_13 : decode cX5_halved 13 = .ok (.if_icmp .ge 26, 3) := by decide +kernel
theorem dX5_halved_16 : decode cX5_halved 16 = .ok (.iload_n 0, 1) := by decide +kernel
theorem dX5_halved_17 : decode cX5_halved 17 = .ok (.iload 5, 2) := by decide +kernel
theorem dX5_halved_19 : decode cX5_halved 19 = .ok (.ishr, 1) := by decide +kernel
theorem dX5_halved_20 : decode cX5_halved 20 = .ok (.iconst 1, 1) := by decide +kernel
theorem dX5_halved_21 : decode cX5_halved 21 = .ok (.iand, 1) := by decide +kernel
theorem dX5_halved_22 : decode cX5_halved 22 = .ok (.ifCond .eq 7, 3) := by decide +kernel
theorem dX5_halved_25 : decode cX5_halved 25 = .ok (.dload_n 1, 1) := by decide +kernel
theorem dX5_halved_26 : decode cX5_halved 26 = .ok (.dload_n 3, 1) := by decide +kernel
theorem dX5_halved_27 : decode cX5_halved 27 = .ok (.dmul, 1) := by decide +kernel
theorem dX5_halved_28 : decode cX5_halved 28 = .ok (.dstore_n 1, 1) := by decide +kernel
theorem dX5_halved_29 : decode cX5_halved 29 = .ok (.dload_n 3, 1) := by decide +kernel
theorem dX5_halved_30 : decode cX5_halved 30 = .ok (.dload_n 3, 1) := by decide +kernel
theorem dX5_halved_31 : decode cX5_halved 31 = .ok (.dmul, 1) := by decide +kernel
theorem dX5_halved_32 : decode cX5_halved 32 = .ok (.dstore_n 3, 1) := by decide +kernel
theorem dX5_halved_33 : decode cX5_halved 33 = .ok (.iinc 5 1, 3) := by decide +kernel
theorem dX5_halved_36 : decode cX5_halved 36 = .ok (.goto (-27), 3) := by decide +kernel
theorem dX5_halved_39 : decode cX5_halved 39 = .ok (.dload_n 1, 1) := by decide +kernel
theorem dX5_halved_40 : decode cX5_halved 40 = .ok (.dreturn, 1) := by decide +kernel
theorem dX5_noNumber_0 : decode cX5_noNumber 0 = .ok (.ldc2_w 310, 3) := by decide +kernel
theorem dX5_noNumber_3 : decode cX5_noNumber 3 = .ok (.dreturn, 1) := by decide +kernel
theorem dX6_init_0 : decode cX6_init 0 = .ok (.aload_n 0, 1) := by decide +kernel
theorem dX6_init_1 : decode cX6_init 1 = .ok (.invokespecial 1, 3) := by decide +kernel
theorem dX6_init_4 : decode cX6_init 4 = .ok (.aload_n 0, 1) := by decide +kernel
theorem dX6_init_5 : decode cX6_init 5 = .ok (.sipush 180, 3) := by decide +kernel
theorem dX6_init_8 : decode cX6_init 8 = .ok (.newarray .int, 2) := by decide +kernel
theorem dX6_init_10 : decode cX6_init 10 = .ok (.putfield 7, 3) := by decide +kernel
theorem dX6_init_13 : decode cX6_init 13 = .ok (.aload_n 0, 1) := by decide +kernel
theorem dX6_init_14 : decode cX6_init 14 = .ok (.sipush 900, 3) := by decide +kernel
theorem dX6_init_17 : decode cX6_init 17 = .ok (.newarray .int, 2) := by decide +kernel
theorem dX6_init_19 : decode cX6_init 19 = .ok (.putfield 13, 3) := by decide +kernel
theorem dX6_init_22 : decode cX6_init 22 = .ok (.aload_n 0, 1) := by decide +kernel
theorem dX6_init_23 : decode cX6_init 23 = .ok (.sipush 180, 3) := by decide +kernel
theorem dX6_init_26 : decode cX6_init 26 = .ok (.newarray .int, 2) := by decide +kernel
theorem dX6_init_28 : decode cX6_init 28 = .ok (.putfield 16, 3) := by decide +kernel
theorem dX6_init_31 : decode cX6_init 31 = .ok (.aload_n 0, 1) := by decide +kernel
theorem dX6_init_32 : decode cX6_init 32 = .ok (.bipush 17, 2) := by decide +kernel
theorem dX6_init_34 : decode cX6_init 34 = .ok (.newarray .double, 2) := by decide +kernel
theorem dX6_init_36 : decode cX6_init 36 = .ok (.putfield 19, 3) := by decide +kernel
theorem dX6_init_39 : decode cX6_init 39 = .ok (.aload_n 0, 1) := by decide +kernel
theorem dX6_init_40 : decode cX6_init 40 = .ok (.bipush 85, 2) := by decide +kernel
theorem dX6_init_42 : decode cX6_init 42 = .ok (.newarray .double, 2) := by decide +kernel
theorem dX6_init_44 : decode cX6_init 44 = .ok (.putfield 23, 3) := by decide +kernel
theorem dX6_init_47 : decode cX6_init 47 = .ok (.aload_n 0, 1) := by decide +kernel
theorem dX6_init_48 : decode cX6_init 48 = .ok (.bipush 17, 2) := by decide +kernel
theorem dX6_init_50 : decode cX6_init 50 = .ok (.newarray .double, 2) := by decide +kernel
theorem dX6_init_52 : decode cX6_init 52 = .ok (.putfield 26, 3) := by decide +kernel
theorem dX6_init_55 : decode cX6_init 55 = .ok (.aload_n 0, 1) := by decide +kernel
theorem dX6_init_56 : decode cX6_init 56 = .ok (.bipush 40, 2) := by decide +kernel
theorem dX6_init_58 : decode cX6_init 58 = .ok (.newarray .char, 2) := by decide +kernel
theorem dX6_init_60 : decode cX6_init 60 = .ok (.putfield 29, 3) := by decide +kernel
theorem dX6_init_63 : decode cX6_init 63 = .ok (.return_, 1) := by decide +kernel
theorem dX6_in_0 : decode cX6_in 0 = .ok (.iload_n 0, 1) := by decide +kernel
theorem dX6_in_1 : decode cX6_in 1 = .ok (.iload_n 1, 1) := by decide +kernel
theorem dX6_in_2 : decode cX6_in 2 = .ok (.if_icmp .lt 12, 3) := by decide +kernel
theorem dX6_in_5 : decode cX6_in 5 = .ok (.iload_n 0, 1) := by decide +kernel
theorem dX6_in_6 : decode cX6_in 6 = .ok (.iload_n 2, 1) := by decide +kernel
theorem dX6_in_7 : decode cX6_in 7 = .ok (.if_icmp .gt 7, 3) := by decide +kernel
theorem dX6_in_10 : decode cX6_in 10 = .ok (.iconst 1, 1) := by decide +kernel
theorem dX6_in_11 : decode cX6_in 11 = .ok (.goto 4, 3) := by decide +kernel
theorem dX6_in_14 : decode cX6_in 14 = .ok (.iconst 0, 1) := by decide +kernel
theorem dX6_in_15 : decode cX6_in 15 = .ok (.ireturn, 1) := by decide +kernel
theorem dX6_record_0 : decode cX6_record 0 = .ok (.aload_n 0, 1) := by decide +kernel
theorem dX6_record_1 : decode cX6_record 1 = .ok (.getfield 33, 3) := by decide +kernel
theorem dX6_record_4 : decode cX6_record 4 = .ok (.iconst 5, 1) := by decide +kernel
theorem dX6_record_5 : decode cX6_record 5 = .ok (.if_icmp .ne 73, 3) := by decide +kernel
theorem dX6_record_8 : decode cX6_record 8 = .ok (.iconst 0, 1) := by decide +kernel
theorem dX6_record_9 : decode cX6_record 9 = .ok (.istore_n 1, 1) := by decide +kernel
theorem dX6_record_10 : decode cX6_record 10 = .ok (.iload_n 1, 1) := by decide +kernel
theorem dX6_record_11 : decode cX6_record 11 = .ok (.sipush 720, 3) := by decide +kernel
theorem dX6_record_14 : decode cX6_record 14 = .ok (.if_icmp .ge 25, 3) := by decide +kernel
theorem dX6_record_17 : decode cX6_record 17 = .ok (.aload_n 0, 1) := by decide +kernel
theorem dX6_record_18 : decode cX6_record 18 = .ok (.getfield 13, 3) := by decide +kernel
theorem dX6_record_21 : decode cX6_record 21 = .ok (.iload_n 1, 1) := by decide +kernel
theorem dX6_record_22 : decode cX6_record 22 = .ok (.aload_n 0, 1) := by decide +kernel
theorem dX6_record_23 : decode cX6_record 23 = .ok (.getfield 13, 3) := by decide +kernel
theorem dX6_record_26 : decode cX6_record 26 = .ok (.iload_n 1, 1) := by decide +kernel
theorem dX6_record_27 : decode cX6_record 27 = .ok (.sipush 180, 3) := by decide +kernel
theorem dX6_record_30 : decode cX6_record 30 = .ok (.iadd, 1) := by decide +kernel
theorem dX6_record_31 : decode cX6_record 31 = .ok (.iaload, 1) := by decide +kernel
theorem dX6_record_32 : decode cX6_record 32 = .ok (.iastore, 1) := by decide +kernel
theorem dX6_record_33 : decode cX6_record 33 = .ok (.iinc 1 1, 3) := by decide +kernel
theorem dX6_record_36 : decode cX6_record 36 = .ok (.goto (-26), 3) := by decide +kernel
theorem dX6_record_39 : decode cX6_record 39 = .ok (.iconst 0, 1) := by decide +kernel
theorem dX6_record_40 : decode cX6_record 40 = .ok (.istore_n 1, 1) := by decide +kernel
theorem dX6_record_41 : decode cX6_record 41 = .ok (.iload_n 1, 1) := by decide +kernel
theorem dX6_record_42 : decode cX6_record 42 = .ok (.bipush 68, 2) := by decide +kernel
theorem dX6_record_44 : decode cX6_record 44 = .ok (.if_icmp .ge 24, 3) := by decide +kernel
theorem dX6_record_47 : decode cX6_record 47 = .ok (.aload_n 0, 1) := by decide +kernel
theorem dX6_record_48 : decode cX6_record 48 = .ok (.getfield 23, 3) := by decide +kernel
theorem dX6_record_51 : decode cX6_record 51 = .ok (.iload_n 1, 1) := by decide +kernel
theorem dX6_record_52 : decode cX6_record 52 = .ok (.aload_n 0, 1) := by decide +kernel
theorem dX6_record_53 : decode cX6_record 53 = .ok (.getfield 23, 3) := by decide +kernel
theorem dX6_record_56 : decode cX6_record 56 = .ok (.iload_n 1, 1) := by decide +kernel
theorem dX6_record_57 : decode cX6_record 57 = .ok (.bipush 17, 2) := by decide +kernel
theorem dX6_record_59 : decode cX6_record 59 = .ok (.iadd, 1) := by decide +kernel
theorem dX6_record_60 : decode cX6_record 60 = .ok (.daload, 1) := by decide +kernel
theorem dX6_record_61 : decode cX6_record 61 = .ok (.dastore, 1) := by decide +kernel
theorem dX6_record_62 : decode cX6_record 62 = .ok (.iinc 1 1, 3) := by decide +kernel
theorem dX6_record_65 : decode cX6_record 65 = .ok (.goto (-24), 3) := by decide +kernel
theorem dX6_record_68 : decode cX6_record 68 = .ok (.aload_n 0, 1) := by decide +kernel
theorem dX6_record_69 : decode cX6_record 69 = .ok (.dup, 1) := by decide +kernel
theorem dX6_record_70 : decode cX6_record 70 = .ok (.getfield 33, 3) := by decide +kernel
theorem dX6_record_73 : decode cX6_record 73 = .ok (.iconst 1, 1) := by decide +kernel
theorem dX6_record_74 : decode cX6_record 74 = .ok (.isub, 1) := by decide +kernel
theorem dX6_record_75 : decode cX6_record 75 = .ok (.putfield 33, 3) := by decide +kernel
theorem dX6_record_78 : decode cX6_record 78 = .ok (.iconst 0, 1) := by decide +kernel
theorem dX6_record_79 : decode cX6_record 79 = .ok (.istore_n 1, 1) := by decide +kernel
theorem dX6_record_80 : decode cX6_record 80 = .ok (.iload_n 1, 1) := by decide +kernel
theorem dX6_record_81 : decode cX6_record 81 = .ok (.sipush 180, 3) := by decide +kernel
theorem dX6_record_84 : decode cX6_record 84 = .ok (.if_icmp .ge 30, 3) := by decide +kernel
theorem dX6_record_87 : decode cX6_record 87 = .ok (.aload_n 0, 1) := by decide +kernel
theorem dX6_record_88 : decode cX6_record 88 = .ok (.getfield 13, 3) := by decide +kernel
theorem dX6_record_91 : decode cX6_record 91 = .ok (.sipush 180, 3) := by decide +kernel
theorem dX6_record_94 : decode cX6_record 94 = .ok (.aload_n 0, 1) := by decide +kernel
theorem dX6_record_95 : decode cX6_record 95 = .ok (.getfield 33, 3) := by decide +kernel
theorem dX6_record_98 : decode cX6_record 98 = .ok (.imul, 1) := by decide +kernel
theorem dX6_record_99 : decode cX6_record 99 = .ok (.iload_n 1, 1) := by decide +kernel
theorem dX6_record_100 : decode cX6_record 100 = .ok (.iadd, 1) := by decide +kernel
theorem dX6_record_101 : decode cX6_record 101 = .ok (.aload_n 0, 1) := by decide +kernel
theorem dX6_record_102 : decode cX6_record 102 = .ok (.getfield 7, 3) := by decide +kernel
theorem dX6_record_105 : decode cX6_record 105 = .ok (.iload_n 1, 1) := by decide +kernel
theorem dX6_record_106 : decode cX6_record 106 = .ok (.iaload, 1) := by decide +kernel
theorem dX6_record_107 : decode cX6_record 107 = .ok (.iastore, 1) := by decide +kernel
theorem dX6_record_108 : decode cX6_record 108 = .ok (.iinc 1 1, 3) := by decide +kernel
theorem dX6_record_111 : decode cX6_record 111 = .ok (.goto (-31), 3) := by decide +kernel
theorem dX6_record_114 : decode cX6_record 114 = .ok (.iconst 0, 1) := by decide +kernel
theorem dX6_record_115 : decode cX6_record 115 = .ok (.istore_n 1, 1) := by decide +kernel
theorem dX6_record_116 : decode cX6_record 116 = .ok (.iload_n 1, 1) := by decide +kernel
theorem dX6_record_117 : decode cX6_record 117 = .ok (.bipush 17, 2) := by decide +kernel
theorem dX6_record_119 : decode cX6_record 119 = .ok (.if_icmp .ge 29, 3) := by decide +kernel
theorem dX6_record_122 : decode cX6_record 122 = .ok (.aload_n 0, 1) := by decide +kernel
theorem dX6_record_123 : decode cX6_record 123 = .ok (.getfield 23, 3) := by decide +kernel
theorem dX6_record_126 : decode cX6_record 126 = .ok (.bipush 17, 2) := by decide +kernel
theorem dX6_record_128 : decode cX6_record 128 = .ok (.aload_n 0, 1) := by decide +kernel
theorem dX6_record_129 : decode cX6_record 129 = .ok (.getfield 33, 3) := by decide +kernel
theorem dX6_record_132 : decode cX6_record 132 = .ok (.imul, 1) := by decide +kernel
theorem dX6_record_133 : decode cX6_record 133 = .ok (.iload_n 1, 1) := by decide +kernel
theorem dX6_record_134 : decode cX6_record 134 = .ok (.iadd, 1) := by decide +kernel
theorem dX6_record_135 : decode cX6_record 135 = .ok (.aload_n 0, 1) := by decide +kernel
theorem dX6_record_136 : decode cX6_record 136 = .ok (.getfield 19, 3) := by decide +kernel
theorem dX6_record_139 : decode cX6_record 139 = .ok (.iload_n 1, 1) := by decide +kernel
theorem dX6_record_140 : decode cX6_record 140 = .ok (.daload, 1) := by decide +kernel
theorem dX6_record_141 : decode cX6_record 141 = .ok (.dastore, 1) := by decide +kernel
theorem dX6_record_142 : decode cX6_record 142 = .ok (.iinc 1 1, 3) := by decide +kernel
theorem dX6_record_145 : decode cX6_record 145 = .ok (.goto (-29), 3) := by decide +kernel
theorem dX6_record_148 : decode cX6_record 148 = .ok (.aload_n 0, 1) := by decide +kernel
theorem dX6_record_149 : decode cX6_record 149 = .ok (.dup, 1) := by decide +kernel
theorem dX6_record_150 : decode cX6_record 150 = .ok (.getfield 33, 3) := by decide +kernel
theorem dX6_record_153 : decode cX6_record 153 = .ok (.iconst 1, 1) := by decide +kernel
theorem dX6_record_154 : decode cX6_record 154 = .ok (.iadd, 1) := by decide +kernel
theorem dX6_record_155 : decode cX6_record 155 = .ok (.putfield 33, 3) := by decide +kernel
theorem dX6_record_158 : decode cX6_record 158 = .ok (.return_, 1) := by decide +kernel
theorem dX6_noGuide_0 : decode cX6_noGuide 0 = .ok (.iload_n 1, 1) := by decide +kernel
theorem dX6_noGuide_1 : decode cX6_noGuide 1 = .ok (.iconst 0, 1) := by decide +kernel
theorem dX6_noGuide_2 : decode cX6_noGuide 2 = .ok (.aload_n 0, 1) := by decide +kernel
theorem dX6_noGuide_3 : decode cX6_noGuide 3 = .ok (.getfield 7, 3) := by decide +kernel
theorem dX6_noGuide_6 : decode cX6_noGuide 6 = .ok (.iconst 1, 1) := by decide +kernel
theorem dX6_noGuide_7 : decode cX6_noGuide 7 = .ok (.iaload, 1) := by decide +kernel
theorem dX6_noGuide_8 : decode cX6_noGuide 8 = .ok (.iconst 1, 1) := by decide +kernel
theorem dX6_noGuide_9 : decode cX6_noGuide 9 = .ok (.isub, 1) := by decide +kernel
theorem dX6_noGuide_10 : decode cX6_noGuide 10 = .ok (.invokestatic 37, 3) := by decide +kernel
theorem dX6_noGuide_13 : decode cX6_noGuide 13 = .ok (.ifCond .ne 7, 3) := by decide +kernel
theorem dX6_noGuide_16 : decode cX6_noGuide 16 = .ok (.iconst 1, 1) := by decide +kernel
theorem dX6_noGuide_17 : decode cX6_noGuide 17 = .ok (.goto 4, 3) := by decide +kernel
theorem dX6_noGuide_20 : decode cX6_noGuide 20 = .ok (.iconst 0, 1) := by decide +kernel
theorem dX6_noGuide_21 : decode cX6_noGuide 21 = .ok (.ireturn, 1) := by decide +kernel
theorem dX6_noBridge_0 : decode cX6_noBridge 0 = .ok (.iload_n 1, 1) := by decide +kernel
theorem dX6_noBridge_1 : decode cX6_noBridge 1 = .ok (.iconst 0, 1) := by decide +kernel
theorem dX6_noBridge_2 : decode cX6_noBridge 2 = .ok (.aload_n 0, 1) := by decide +kernel
theorem dX6_noBridge_3 : decode cX6_noBridge 3 = .ok (.getfield 7, 3) := by decide +kernel
theorem dX6_noBridge_6 : decode cX6_noBridge 6 = .ok (.iconst 2, 1) := by decide +kernel
theorem dX6_noBridge_7 : decode cX6_noBridge 7 = .ok (.iaload, 1) := by decide +kernel
theorem dX6_noBridge_8 : decode cX6_noBridge 8 = .ok (.iconst 1, 1) := by decide +kernel
theorem dX6_noBridge_9 : decode cX6_noBridge 9 = .ok (.isub, 1) := by decide +kernel
theorem dX6_noBridge_10 : decode cX6_noBridge 10 = .ok (.invokestatic 37, 3) := by decide +kernel
theorem dX6_noBridge_13 : decode cX6_noBridge 13 = .ok (.ifCond .ne 7, 3) := by decide +kernel
theorem dX6_noBridge_16 : decode cX6_noBridge 16 = .ok (.iconst 1, 1) := by decide +kernel
theorem dX6_noBridge_17 : decode cX6_noBridge 17 = .ok (.goto 4, 3) := by decide +kernel
theorem dX6_noBridge_20 : decode cX6_noBridge 20 = .ok (.iconst 0, 1) := by decide +kernel
theorem dX6_noBridge_21 : decode cX6_noBridge 21 = .ok (.ireturn, 1) := by decide +kernel
theorem dX6_noTour_0 : decode cX6_noTour 0 = .ok (.iload_n 1, 1) := by decide +kernel
theorem dX6_noTour_1 : decode cX6_noTour 1 = .ok (.iconst 0, 1) := by decide +kernel
theorem dX6_noTour_2 : decode cX6_noTour 2 = .ok (.aload_n 0, 1) := by decide +kernel
theorem dX6_noTour_3 : decode cX6_noTour 3 = .ok (.getfield 7, 3) := by decide +kernel
theorem dX6_noTour_6 : decode cX6_noTour 6 = .ok (.iconst 3, 1) := by decide +kernel
theorem dX6_noTour_7 : decode cX6_noTour 7 = .ok (.iaload, 1) := by decide +kernel
theorem dX6_noTour_8 : decode cX6_noTour 8 = .ok (.iconst 1, 1) := by decide +kernel
theorem dX6_noTour_9 : decode cX6_noTour 9 = .ok (.isub, 1) := by decide +kernel
theorem dX6_noTour_10 : decode cX6_noTour 10 = .ok (.invokestatic 37, 3) := by decide +kernel
theorem dX6_noTour_13 : decode cX6_noTour 13 = .ok (.ifCond .ne 7, 3) := by decide +kernel
theorem dX6_noTour_16 : decode cX6_noTour 16 = .ok (.iconst 1, 1) := by decide +kernel
theorem dX6_noTour_17 : decode cX6_noTour 17 = .ok (.goto 4, 3) := by decide +kernel
theorem dX6_noTour_20 : decode cX6_noTour 20 = .ok (.iconst 0, 1) := by decide +kernel
theorem dX6_noTour_21 : decode cX6_noTour 21 = .ok (.ireturn, 1) := by decide +kernel
theorem dX6_ofGuide_0 : decode cX6_ofGuide 0 = .ok (.aload_n 0, 1) := by decide +kernel
theorem dX6_ofGuide_1 : decode cX6_ofGuide 1 = .ok (.getfield 7, 3) := by decide +kernel
theorem dX6_ofGuide_4 : decode cX6_ofGuide 4 = .ok (.bipush 8, 2) := by decide +kernel
theorem dX6_ofGuide_6 : decode cX6_ofGuide 6 = .ok (.iconst 4, 1) := by decide +kernel
theorem dX6_ofGuide_7 : decode cX6_ofGuide 7 = .ok (.iload_n 1, 1) := by decide +kernel
theorem dX6_ofGuide_8 : decode cX6_ofGuide 8 = .ok (.imul, 1) := by decide +kernel
theorem dX6_ofGuide_9 : decode cX6_ofGuide 9 = .ok (.iadd, 1) := by decide +kernel
theorem dX6_ofGuide_10 : decode cX6_ofGuide 10 = .ok (.iload_n 2, 1) := by decide +kernel
theorem dX6_ofGuide_11 : decode cX6_ofGuide 11 = .ok (.iadd, 1) := by decide +kernel
theorem dX6_ofGuide_12 : decode cX6_ofGuide 12 = .ok (.iaload, 1) := by decide +kernel
theorem dX6_ofGuide_13 : decode cX6_ofGuide 13 = .ok (.ireturn, 1) := by decide +kernel
theorem dX6_of_0 : decode cX6_of 0 = .ok (.aload_n 0, 1) := by decide +kernel
theorem dX6_of_1 : decode cX6_of 1 = .ok (.getfield 7, 3) := by decide +kernel
theorem dX6_of_4 : decode cX6_of 4 = .ok (.bipush 40, 2) := by decide +kernel
theorem dX6_of_6 : decode cX6_of 6 = .ok (.bipush 14, 2) := by decide +kernel
theorem dX6_of_8 : decode cX6_of 8 = .ok (.iload_n 1, 1) := by decide +kernel
theorem dX6_of_9 : decode cX6_of 9 = .ok (.imul, 1) := by decide +kernel
theorem dX6_of_10 : decode cX6_of 10 = .ok (.iadd, 1) := by decide +kernel
theorem dX6_of_11 : decode cX6_of 11 = .ok (.iload_n 2, 1) := by decide +kernel
theorem dX6_of_12 : decode cX6_of 12 = .ok (.iadd, 1) := by decide +kernel
theorem dX6_of_13 : decode cX6_of 13 = .ok (.iaload, 1) := by decide +kernel
theorem dX6_of_14 : decode cX6_of 14 = .ok (.ireturn, 1) := by decide +kernel
theorem dX6_to_0 : decode cX6_to 0 = .ok (.aload_n 0, 1) := by decide +kernel
theorem dX6_to_1 : decode cX6_to 1 = .ok (.getfield 7, 3) := by decide +kernel
theorem dX6_to_4 : decode cX6_to 4 = .ok (.bipush 40, 2) := by decide +kernel
theorem dX6_to_6 : decode cX6_to 6 = .ok (.bipush 14, 2) := by decide +kernel
theorem dX6_to_8 : decode cX6_to 8 = .ok (.iload_n 1, 1) := by decide +kernel
theorem dX6_to_9 : decode cX6_to 9 = .ok (.imul, 1) := by decide +kernel
theorem dX6_to_10 : decode cX6_to 10 = .ok (.iadd, 1) := by decide +kernel
theorem dX6_to_11 : decode cX6_to 11 = .ok (.iload_n 2, 1) := by decide +kernel
theorem dX6_to_12 : decode cX6_to 12 = .ok (.iadd, 1) := by decide +kernel
theorem dX6_to_13 : decode cX6_to 13 = .ok (.iload_n 3, 1) := by decide +kernel
theorem dX6_to_14 : decode cX6_to 14 = .ok (.iastore, 1) := by decide +kernel
theorem dX6_to_15 : decode cX6_to 15 = .ok (.return_, 1) := by decide +kernel
theorem dX6_isOpen_0 : decode cX6_isOpen 0 = .ok (.aload_n 0, 1) := by decide +kernel
theorem dX6_isOpen_1 : decode cX6_isOpen 1 = .ok (.iload_n 1, 1) := by decide +kernel
theorem dX6_isOpen_2 : decode cX6_isOpen 2 = .ok (.bipush 6, 2) := by decide +kernel
theorem dX6_isOpen_4 : decode cX6_isOpen 4 = .ok (.invokevirtual 41, 3) := by decide +kernel
theorem dX6_isOpen_7 : decode cX6_isOpen 7 = .ok (.ifCond .ne 7, 3) := by decide +kernel
theorem dX6_isOpen_10 : decode cX6_isOpen 10 = .ok (.iconst 1, 1) := by decide +kernel
theorem dX6_isOpen_11 : decode cX6_isOpen 11 = .ok (.goto 4, 3) := by decide +kernel
theorem dX6_isOpen_14 : decode cX6_isOpen 14 = .ok (.iconst 0, 1) := by decide +kernel
theorem dX6_isOpen_15 : decode cX6_isOpen 15 = .ok (.ireturn, 1) := by decide +kernel
theorem dX6_isCertificate_0 : decode cX6_isCertificate 0 = .ok (.iload_n 0, 1) := by decide +kernel
theorem dX6_isCertificate_1 : decode cX6_isCertificate 1 = .ok (.iconst 1, 1) := by decide +kernel
theorem dX6_isCertificate_2 : decode cX6_isCertificate 2 = .ok (.iconst 3, 1) := by decide +kernel
theorem dX6_isCertificate_3 : decode cX6_isCertificate 3 = .ok (.invokestatic 37, 3) := by decide +kernel
theorem dX6_isCertificate_6 : decode cX6_isCertificate 6 = .ok (.ifCond .eq 18, 3) := by decide +kernel
theorem dX6_isCertificate_9 : decode cX6_isCertificate 9 = .ok (.iload_n 1, 1) := by decide +kernel
theorem dX6_isCertificate_10 : decode cX6_isCertificate 10 = .ok (.iconst 0, 1) := by decide +kernel
theorem dX6_isCertificate_11 : decode cX6_isCertificate 11 = .ok (.sipush 999, 3) := by decide +kernel
theorem dX6_isCertificate_14 : decode cX6_isCertificate 14 = .ok (.invokestatic 37, 3) := by decide +kernel
theorem dX6_isCertificate_17 : decode cX6_isCertificate 17 = .ok (.ifCond .eq 7, 3) := by decide +kernel
theorem dX6_isCertificate_20 : decode cX6_isCertificate 20 = .ok (.iconst 1, 1) := by decide +kernel
theorem dX6_isCertificate_21 : decode cX6_isCertificate 21 = .ok (.goto 4, 3) := by decide +kernel
theorem dX6_isCertificate_24 : decode cX6_isCertificate 24 = .ok (.iconst 0, 1) := by decide +kernel
theorem dX6_isCertificate_25 : decode cX6_isCertificate 25 = .ok (.ireturn, 1) := by decide +kernel
theorem dX6_addGuide_0 : decode cX6_addGuide 0 = .ok (.iload_n 1, 1) := by decide +kernel
theorem dX6_addGuide_1 : decode cX6_addGuide 1 = .ok (.iload_n 2, 1) := by decide +kernel
theorem dX6_addGuide_2 : decode cX6_addGuide 2 = .ok (.invokestatic 45, 3) := by decide +kernel
theorem dX6_addGuide_5 : decode cX6_addGuide 5 = .ok (.ifCond .ne 6, 3) := by decide +kernel
theorem dX6_addGuide_8 : decode cX6_addGuide 8 = .ok (.bipush (-2), 2) := by decide +kernel
theorem dX6_addGuide_10 : decode cX6_addGuide 10 = .ok (.ireturn, 1) := by decide +kernel
theorem dX6_addGuide_11 : decode cX6_addGuide 11 = .ok (.aload_n 0, 1) := by decide +kernel
theorem dX6_addGuide_12 : decode cX6_addGuide 12 = .ok (.getfield 7, 3) := by decide +kernel
theorem dX6_addGuide_15 : decode cX6_addGuide 15 = .ok (.iconst 1, 1) := by decide +kernel
theorem dX6_addGuide_16 : decode cX6_addGuide 16 = .ok (.iaload, 1) := by decide +kernel
theorem dX6_addGuide_17 : decode cX6_addGuide 17 = .ok (.bipush 8, 2) := by decide +kernel
theorem dX6_addGuide_19 : decode cX6_addGuide 19 = .ok (.if_icmp .ne 6, 3) := by decide +kernel
theorem dX6_addGuide_22 : decode cX6_addGuide 22 = .ok (.bipush (-3), 2) := by decide +kernel
theorem dX6_addGuide_24 : decode cX6_addGuide 24 = .ok (.ireturn, 1) := by decide +kernel
theorem dX6_addGuide_25 : decode cX6_addGuide 25 = .ok (.aload_n 0, 1) := by decide +kernel
theorem dX6_addGuide_26 : decode cX6_addGuide 26 = .ok (.invokevirtual 49, 3) := by decide +kernel
theorem dX6_addGuide_29 : decode cX6_addGuide 29 = .ok (.aload_n 0, 1) := by decide +kernel
theorem dX6_addGuide_30 : decode cX6_addGuide 30 = .ok (.getfield 7, 3) := by decide +kernel
theorem dX6_addGuide_33 : decode cX6_addGuide 33 = .ok (.iconst 1, 1) := by decide +kernel
theorem dX6_addGuide_34 : decode cX6_addGuide 34 = .ok (.iaload, 1) := by decide +kernel
theorem dX6_addGuide_35 : decode cX6_addGuide 35 = .ok (.istore_n 3, 1) := by decide +kernel
theorem dX6_addGuide_36 : decode cX6_addGuide 36 = .ok (.aload_n 0, 1) := by decide +kernel
theorem dX6_addGuide_37 : decode cX6_addGuide 37 = .ok (.getfield 7, 3) := by decide +kernel
theorem dX6_addGuide_40 : decode cX6_addGuide 40 = .ok (.iconst 1, 1) := by decide +kernel
theorem dX6_addGuide_41 : decode cX6_addGuide 41 = .ok (.dup2, 1) := by decide +kernel
theorem dX6_addGuide_42 : decode cX6_addGuide 42 = .ok (.iaload, 1) := by decide +kernel
theorem dX6_addGuide_43 : decode cX6_addGuide 43 = .ok (.iconst 1, 1) := by decide +kernel
theorem dX6_addGuide_44 : decode cX6_addGuide 44 = .ok (.iadd, 1) := by decide +kernel
theorem dX6_addGuide_45 : decode cX6_addGuide 45 = .ok (.iastore, 1) := by decide +kernel
theorem dX6_addGuide_46 : decode cX6_addGuide 46 = .ok (.aload_n 0, 1) := by decide +kernel
theorem dX6_addGuide_47 : decode cX6_addGuide 47 = .ok (.getfield 7, 3) := by decide +kernel
theorem dX6_addGuide_50 : decode cX6_addGuide 50 = .ok (.bipush 8, 2) := by decide +kernel
theorem dX6_addGuide_52 : decode cX6_addGuide 52 = .ok (.iconst 4, 1) := by decide +kernel
theorem dX6_addGuide_53 : decode cX6_addGuide 53 = .ok (.iload_n 3, 1) := by decide +kernel
theorem dX6_addGuide_54 : decode cX6_addGuide 54 = .ok (.imul, 1) := by decide +kernel
theorem dX6_addGuide_55 : decode cX6_addGuide 55 = .ok (.iadd, 1) := by decide +kernel
theorem dX6_addGuide_56 : decode cX6_addGuide 56 = .ok (.iconst 0, 1) := by decide +kernel
theorem dX6_addGuide_57 : decode cX6_addGuide 57 = .ok (.iadd, 1) := by decide +kernel
theorem dX6_addGuide_58 : decode cX6_addGuide 58 = .ok (.iload_n 1, 1) := by decide +kernel
theorem dX6_addGuide_59 : decode cX6_addGuide 59 = .ok (.iastore, 1) := by decide +kernel
theorem dX6_addGuide_60 : decode cX6_addGuide 60 = .ok (.aload_n 0, 1) := by decide +kernel
theorem dX6_addGuide_61 : decode cX6_addGuide 61 = .ok (.getfield 7, 3) := by decide +kernel
theorem dX6_addGuide_64 : decode cX6_addGuide 64 = .ok (.bipush 8, 2) := by decide +kernel
theorem dX6_addGuide_66 : decode cX6_addGuide 66 = .ok (.iconst 4, 1) := by decide +kernel
theorem dX6_addGuide_67 : decode cX6_addGuide 67 = .ok (.iload_n 3, 1) := by decide +kernel
theorem dX6_addGuide_68 : decode cX6_addGuide 68 = .ok (.imul, 1) := by decide +kernel
theorem dX6_addGuide_69 : decode cX6_addGuide 69 = .ok (.iadd, 1) := by decide +kernel
theorem dX6_addGuide_70 : decode cX6_addGuide 70 = .ok (.iconst 1, 1) := by decide +kernel
theorem dX6_addGuide_71 : decode cX6_addGuide 71 = .ok (.iadd, 1) := by decide +kernel
theorem dX6_addGuide_72 : decode cX6_addGuide 72 = .ok (.iload_n 2, 1) := by decide +kernel
theorem dX6_addGuide_73 : decode cX6_addGuide 73 = .ok (.iastore, 1) := by decide +kernel
theorem dX6_addGuide_74 : decode cX6_addGuide 74 = .ok (.aload_n 0, 1) := by decide +kernel
theorem dX6_addGuide_75 : decode cX6_addGuide 75 = .ok (.getfield 7, 3) := by decide +kernel
theorem dX6_addGuide_78 : decode cX6_addGuide 78 = .ok (.bipush 8, 2) := by decide +kernel
theorem dX6_addGuide_80 : decode cX6_addGuide 80 = .ok (.iconst 4, 1) := by decide +kernel
theorem dX6_addGuide_81 : decode cX6_addGuide 81 = .ok (.iload_n 3, 1) := by decide +kernel
theorem dX6_addGuide_82 : decode cX6_addGuide 82 = .ok (.imul, 1) := by decide +kernel
theorem dX6_addGuide_83 : decode cX6_addGuide 83 = .ok (.iadd, 1) := by decide +kernel
theorem dX6_addGuide_84 : decode cX6_addGuide 84 = .ok (.iconst 2, 1) := by decide +kernel
theorem dX6_addGuide_85 : decode cX6_addGuide 85 = .ok (.iadd, 1) := by decide +kernel
theorem dX6_addGuide_86 : decode cX6_addGuide 86 = .ok (.iconst 0, 1) := by decide +kernel
theorem dX6_addGuide_87 : decode cX6_addGuide 87 = .ok (.iastore, 1) := by decide +kernel
theorem dX6_addGuide_88 : decode cX6_addGuide 88 = .ok (.aload_n 0, 1) := by decide +kernel
theorem dX6_addGuide_89 : decode cX6_addGuide 89 = .ok (.getfield 7, 3) := by decide +kernel
theorem dX6_addGuide_92 : decode cX6_addGuide 92 = .ok (.bipush 8, 2) := by decide +kernel
theorem dX6_addGuide_94 : decode cX6_addGuide 94 = .ok (.iconst 4, 1) := by decide +kernel
theorem dX6_addGuide_95 : decode cX6_addGuide 95 = .ok (.iload_n 3, 1) := by decide +kernel
theorem dX6_addGuide_96 : decode cX6_addGuide 96 = .ok (.imul, 1) := by decide +kernel
theorem dX6_addGuide_97 : decode cX6_addGuide 97 = .ok (.iadd, 1) := by decide +kernel
theorem dX6_addGuide_98 : decode cX6_addGuide 98 = .ok (.iconst 3, 1) := by decide +kernel
theorem dX6_addGuide_99 : decode cX6_addGuide 99 = .ok (.iadd, 1) := by decide +kernel
theorem dX6_addGuide_100 : decode cX6_addGuide 100 = .ok (.iconst 0, 1) := by decide +kernel
theorem dX6_addGuide_101 : decode cX6_addGuide 101 = .ok (.iastore, 1) := by decide +kernel
theorem dX6_addGuide_102 : decode cX6_addGuide 102 = .ok (.iload_n 3, 1) := by decide +kernel
theorem dX6_addGuide_103 : decode cX6_addGuide 103 = .ok (.ireturn, 1) := by decide +kernel
theorem dX6_renew_0 : decode cX6_renew 0 = .ok (.aload_n 0, 1) := by decide +kernel
theorem dX6_renew_1 : decode cX6_renew 1 = .ok (.iload_n 1, 1) := by decide +kernel
theorem dX6_renew_2 : decode cX6_renew 2 = .ok (.invokevirtual 52, 3) := by decide +kernel
theorem dX6_renew_5 : decode cX6_renew 5 = .ok (.ifCond .eq 5, 3) := by decide +kernel
theorem dX6_renew_8 : decode cX6_renew 8 = .ok (.iconst (-1), 1) := by decide +kernel
theorem dX6_renew_9 : decode cX6_renew 9 = .ok (.ireturn, 1) := by decide +kernel
theorem dX6_renew_10 : decode cX6_renew 10 = .ok (.iload_n 2, 1) := by decide +kernel
theorem dX6_renew_11 : decode cX6_renew 11 = .ok (.iload_n 3, 1) := by decide +kernel
theorem dX6_renew_12 : decode cX6_renew 12 = .ok (.invokestatic 45, 3) := by decide +kernel
theorem dX6_renew_15 : decode cX6_renew 15 = .ok (.ifCond .ne 6, 3) := by decide +kernel
theorem dX6_renew_18 : decode cX6_renew 18 = .ok (.bipush (-2), 2) := by decide +kernel
theorem dX6_renew_20 : decode cX6_renew 20 = .ok (.ireturn, 1) := by decide +kernel
theorem dX6_renew_21 : decode cX6_renew 21 = .ok (.aload_n 0, 1) := by decide +kernel
theorem dX6_renew_22 : decode cX6_renew 22 = .ok (.iload_n 1, 1) := by decide +kernel
theorem dX6_renew_23 : decode cX6_renew 23 = .ok (.iconst 1, 1) := by decide +kernel
theorem dX6_renew_24 : decode cX6_renew 24 = .ok (.invokevirtual 56, 3) := by decide +kernel
theorem dX6_renew_27 : decode cX6_renew 27 = .ok (.istore 4, 2) := by decide +kernel
theorem dX6_renew_29 : decode cX6_renew 29 = .ok (.iload 4, 2) := by decide +kernel
theorem dX6_renew_31 : decode cX6_renew 31 = .ok (.iload_n 3, 1) := by decide +kernel
theorem dX6_renew_32 : decode cX6_renew 32 = .ok (.if_icmp .ne 16, 3) := by decide +kernel
theorem dX6_renew_35 : decode cX6_renew 35 = .ok (.aload_n 0, 1) := by decide +kernel
theorem dX6_renew_36 : decode cX6_renew 36 = .ok (.iload_n 1, 1) := by decide +kernel
theorem dX6_renew_37 : decode cX6_renew 37 = .ok (.iconst 0, 1) := by decide +kernel
theorem dX6_renew_38 : decode cX6_renew 38 = .ok (.invokevirtual 56, 3) := by decide +kernel
theorem dX6_renew_41 : decode cX6_renew 41 = .ok (.iload_n 2, 1) := by decide +kernel
theorem dX6_renew_42 : decode cX6_renew 42 = .ok (.if_icmp .ne 6, 3) := by decide +kernel
theorem dX6_renew_45 : decode cX6_renew 45 = .ok (.bipush (-5), 2) := by decide +kernel
theorem dX6_renew_47 : decode cX6_renew 47 = .ok (.ireturn, 1) := by decide +kernel
theorem dX6_renew_48 : decode cX6_renew 48 = .ok (.aload_n 0, 1) := by decide +kernel
theorem dX6_renew_49 : decode cX6_renew 49 = .ok (.invokevirtual 49, 3) := by decide +kernel
theorem dX6_renew_52 : decode cX6_renew 52 = .ok (.aload_n 0, 1) := by decide +kernel
theorem dX6_renew_53 : decode cX6_renew 53 = .ok (.getfield 7, 3) := by decide +kernel
theorem dX6_renew_56 : decode cX6_renew 56 = .ok (.bipush 8, 2) := by decide +kernel
theorem dX6_renew_58 : decode cX6_renew 58 = .ok (.iconst 4, 1) := by decide +kernel
theorem dX6_renew_59 : decode cX6_renew 59 = .ok (.iload_n 1, 1) := by decide +kernel
theorem dX6_renew_60 : decode cX6_renew 60 = .ok (.imul, 1) := by decide +kernel
theorem dX6_renew_61 : decode cX6_renew 61 = .ok (.iadd, 1) := by decide +kernel
theorem dX6_renew_62 : decode cX6_renew 62 = .ok (.iconst 0, 1) := by decide +kernel
theorem dX6_renew_63 : decode cX6_renew 63 = .ok (.iadd, 1) := by decide +kernel
theorem dX6_renew_64 : decode cX6_renew 64 = .ok (.iload_n 2, 1) := by decide +kernel
theorem dX6_renew_65 : decode cX6_renew 65 = .ok (.iastore, 1) := by decide +kernel
theorem dX6_renew_66 : decode cX6_renew 66 = .ok (.aload_n 0, 1) := by decide +kernel
theorem dX6_renew_67 : decode cX6_renew 67 = .ok (.getfield 7, 3) := by decide +kernel
theorem dX6_renew_70 : decode cX6_renew 70 = .ok (.bipush 8, 2) := by decide +kernel
theorem dX6_renew_72 : decode cX6_renew 72 = .ok (.iconst 4, 1) := by decide +kernel
theorem dX6_renew_73 : decode cX6_renew 73 = .ok (.iload_n 1, 1) := by decide +kernel
theorem dX6_renew_74 : decode cX6_renew 74 = .ok (.imul, 1) := by decide +kernel
theorem dX6_renew_75 : decode cX6_renew 75 = .ok (.iadd, 1) := by decide +kernel
theorem dX6_renew_76 : decode cX6_renew 76 = .ok (.iconst 1, 1) := by decide +kernel
theorem dX6_renew_77 : decode cX6_renew 77 = .ok (.iadd, 1) := by decide +kernel
theorem dX6_renew_78 : decode cX6_renew 78 = .ok (.iload_n 3, 1) := by decide +kernel
theorem dX6_renew_79 : decode cX6_renew 79 = .ok (.iastore, 1) := by decide +kernel
theorem dX6_renew_80 : decode cX6_renew 80 = .ok (.iload 4, 2) := by decide +kernel
theorem dX6_renew_82 : decode cX6_renew 82 = .ok (.ireturn, 1) := by decide +kernel
theorem dX6_isUpTo_0 : decode cX6_isUpTo 0 = .ok (.lload_n 0, 1) := by decide +kernel
theorem dX6_isUpTo_1 : decode cX6_isUpTo 1 = .ok (.lconst 0, 1) := by decide +kernel
theorem dX6_isUpTo_2 : decode cX6_isUpTo 2 = .ok (.lcmp, 1) := by decide +kernel
theorem dX6_isUpTo_3 : decode cX6_isUpTo 3 = .ok (.ifCond .lt 11, 3) := by decide +kernel
theorem dX6_isUpTo_6 : decode cX6_isUpTo 6 = .ok (.lload_n 0, 1) := by decide +kernel
theorem dX6_isUpTo_7 : decode cX6_isUpTo 7 = .ok (.ldc2_w 59, 3) := by decide +kernel
theorem dX6_isUpTo_10 : decode cX6_isUpTo 10 = .ok (.lcmp, 1) := by decide +kernel
theorem dX6_isUpTo_11 : decode cX6_isUpTo 11 = .ok (.ifCond .le 5, 3) := by decide +kernel
theorem dX6_isUpTo_14 : decode cX6_isUpTo 14 = .ok (.iconst 0, 1) := by decide +kernel
theorem dX6_isUpTo_15 : decode cX6_isUpTo 15 = .ok (.ireturn, 1) := by decide +kernel
theorem dX6_isUpTo_16 : decode cX6_isUpTo 16 = .ok (.lload_n 0, 1) := by decide +kernel
theorem dX6_isUpTo_17 : decode cX6_isUpTo 17 = .ok (.invokestatic 61, 3) := by decide +kernel
theorem dX6_isUpTo_20 : decode cX6_isUpTo 20 = .ok (.dstore 4, 2) := by decide +kernel
theorem dX6_isUpTo_22 : decode cX6_isUpTo 22 = .ok (.dload 4, 2) := by decide +kernel
theorem dX6_isUpTo_24 : decode cX6_isUpTo 24 = .ok (.dconst 0, 1) := by decide +kernel
theorem dX6_isUpTo_25 : decode cX6_isUpTo 25 = .ok (.dcmp .l, 1) := by decide +kernel
theorem dX6_isUpTo_26 : decode cX6_isUpTo 26 = .ok (.ifCond .lt 14, 3) := by decide +kernel
theorem dX6_isUpTo_29 : decode cX6_isUpTo 29 = .ok (.dload 4, 2) := by decide +kernel
theorem dX6_isUpTo_31 : decode cX6_isUpTo 31 = .ok (.dload_n 2, 1) := by decide +kernel
theorem dX6_isUpTo_32 : decode cX6_isUpTo 32 = .ok (.dcmp .g, 1) := by decide +kernel
theorem dX6_isUpTo_33 : decode cX6_isUpTo 33 = .ok (.ifCond .gt 7, 3) := by decide +kernel
theorem dX6_isUpTo_36 : decode cX6_isUpTo 36 = .ok (.iconst 1, 1) := by decide +kernel
theorem dX6_isUpTo_37 : decode cX6_isUpTo 37 = .ok (.goto 4, 3) := by decide +kernel
theorem dX6_isUpTo_40 : decode cX6_isUpTo 40 = .ok (.iconst 0, 1) := by decide +kernel
theorem dX6_isUpTo_41 : decode cX6_isUpTo 41 = .ok (.ireturn, 1) := by decide +kernel
theorem dX6_addBridge_0 : decode cX6_addBridge 0 = .ok (.lload_n 1, 1) := by decide +kernel
theorem dX6_addBridge_1 : decode cX6_addBridge 1 = .ok (.ldc2_w 67, 3) := by decide +kernel
theorem dX6_addBridge_4 : decode cX6_addBridge 4 = .ok (.invokestatic 69, 3) := by decide +kernel
theorem dX6_addBridge_7 : decode cX6_addBridge 7 = .ok (.ifCond .ne 6, 3) := by decide +kernel
theorem dX6_addBridge_10 : decode cX6_addBridge 10 = .ok (.bipush (-2), 2) := by decide +kernel
theorem dX6_addBridge_12 : decode cX6_addBridge 12 = .ok (.ireturn, 1) := by decide +kernel
theorem dX6_addBridge_13 : decode cX6_addBridge 13 = .ok (.aload_n 0, 1) := by decide +kernel
theorem dX6_addBridge_14 : decode cX6_addBridge 14 = .ok (.getfield 7, 3) := by decide +kernel
theorem dX6_addBridge_17 : decode cX6_addBridge 17 = .ok (.iconst 2, 1) := by decide +kernel
theorem dX6_addBridge_18 : decode cX6_addBridge 18 = .ok (.iaload, 1) := by decide +kernel
theorem dX6_addBridge_19 : decode cX6_addBridge 19 = .ok (.bipush 6, 2) := by decide +kernel
theorem dX6_addBridge_21 : decode cX6_addBridge 21 = .ok (.if_icmp .ne 6, 3) := by decide +kernel
theorem dX6_addBridge_24 : decode cX6_addBridge 24 = .ok (.bipush (-3), 2) := by decide +kernel
theorem dX6_addBridge_26 : decode cX6_addBridge 26 = .ok (.ireturn, 1) := by decide +kernel
theorem dX6_addBridge_27 : decode cX6_addBridge 27 = .ok (.aload_n 0, 1) := by decide +kernel
theorem dX6_addBridge_28 : decode cX6_addBridge 28 = .ok (.invokevirtual 49, 3) := by decide +kernel
theorem dX6_addBridge_31 : decode cX6_addBridge 31 = .ok (.aload_n 0, 1) := by decide +kernel
theorem dX6_addBridge_32 : decode cX6_addBridge 32 = .ok (.getfield 19, 3) := by decide +kernel
theorem dX6_addBridge_35 : decode cX6_addBridge 35 = .ok (.iconst 1, 1) := by decide +kernel
theorem dX6_addBridge_36 : decode cX6_addBridge 36 = .ok (.aload_n 0, 1) := by decide +kernel
theorem dX6_addBridge_37 : decode cX6_addBridge 37 = .ok (.getfield 7, 3) := by decide +kernel
theorem dX6_addBridge_40 : decode cX6_addBridge 40 = .ok (.iconst 2, 1) := by decide +kernel
theorem dX6_addBridge_41 : decode cX6_addBridge 41 = .ok (.iaload, 1) := by decide +kernel
theorem dX6_addBridge_42 : decode cX6_addBridge 42 = .ok (.iadd, 1) := by decide +kernel
theorem dX6_addBridge_43 : decode cX6_addBridge 43 = .ok (.lload_n 1, 1) := by decide +kernel
theorem dX6_addBridge_44 : decode cX6_addBridge 44 = .ok (.invokestatic 61, 3) := by decide +kernel
theorem dX6_addBridge_47 : decode cX6_addBridge 47 = .ok (.dastore, 1) := by decide +kernel
theorem dX6_addBridge_48 : decode cX6_addBridge 48 = .ok (.aload_n 0, 1) := by decide +kernel
theorem dX6_addBridge_49 : decode cX6_addBridge 49 = .ok (.getfield 7, 3) := by decide +kernel
theorem dX6_addBridge_52 : decode cX6_addBridge 52 = .ok (.iconst 2, 1) := by decide +kernel
theorem dX6_addBridge_53 : decode cX6_addBridge 53 = .ok (.dup2, 1) := by decide +kernel
theorem dX6_addBridge_54 : decode cX6_addBridge 54 = .ok (.iaload, 1) := by decide +kernel
theorem dX6_addBridge_55 : decode cX6_addBridge 55 = .ok (.iconst 1, 1) := by decide +kernel
theorem dX6_addBridge_56 : decode cX6_addBridge 56 = .ok (.iadd, 1) := by decide +kernel
theorem dX6_addBridge_57 : decode cX6_addBridge 57 = .ok (.iastore, 1) := by decide +kernel
theorem dX6_addBridge_58 : decode cX6_addBridge 58 = .ok (.aload_n 0, 1) := by decide +kernel
theorem dX6_addBridge_59 : decode cX6_addBridge 59 = .ok (.getfield 7, 3) := by decide +kernel
theorem dX6_addBridge_62 : decode cX6_addBridge 62 = .ok (.iconst 2, 1) := by decide +kernel
theorem dX6_addBridge_63 : decode cX6_addBridge 63 = .ok (.iaload, 1) := by decide +kernel
theorem dX6_addBridge_64 : decode cX6_addBridge 64 = .ok (.iconst 1, 1) := by decide +kernel
theorem dX6_addBridge_65 : decode cX6_addBridge 65 = .ok (.isub, 1) := by decide +kernel
theorem dX6_addBridge_66 : decode cX6_addBridge 66 = .ok (.ireturn, 1) := by decide +kernel
theorem dX6_setTemperature_0 : decode cX6_setTemperature 0 = .ok (.lload_n 1, 1) := by decide +kernel
theorem dX6_setTemperature_1 : decode cX6_setTemperature 1 = .ok (.ldc2_w 73, 3) := by decide +kernel
theorem dX6_setTemperature_4 : decode cX6_setTemperature 4 = .ok (.land, 1) := by decide +kernel
theorem dX6_setTemperature_5 : decode cX6_setTemperature 5 = .ok (.ldc2_w 59, 3) := by decide +kernel
theorem dX6_setTemperature_8 : decode cX6_setTemperature 8 = .ok (.lcmp, 1) := by decide +kernel
theorem dX6_setTemperature_9 : decode cX6_setTemperature 9 = .ok (.ifCond .le 6, 3) := by decide +kernel
theorem dX6_setTemperature_12 : decode cX6_setTemperature 12 = .ok (.bipush (-2), 2) := by decide +kernel
theorem dX6_setTemperature_14 : decode cX6_setTemperature 14 = .ok (.ireturn, 1) := by decide +kernel
theorem dX6_setTemperature_15 : decode cX6_setTemperature 15 = .ok (.lload_n 1, 1) := by decide +kernel
theorem dX6_setTemperature_16 : decode cX6_setTemperature 16 = .ok (.invokestatic 61, 3) := by decide +kernel
theorem dX6_setTemperature_19 : decode cX6_setTemperature 19 = .ok (.dstore_n 3, 1) := by decide +kernel
theorem dX6_setTemperature_20 : decode cX6_setTemperature 20 = .ok (.dload_n 3, 1) := by decide +kernel
theorem dX6_setTemperature_21 : decode cX6_setTemperature 21 = .ok (.ldc2_w 75, 3) := by decide +kernel
theorem dX6_setTemperature_24 : decode cX6_setTemperature 24 = .ok (.dcmp .l, 1) := by decide +kernel
theorem dX6_setTemperature_25 : decode cX6_setTemperature 25 = .ok (.ifCond .lt 15, 3) := by decide +kernel
theorem dX6_setTemperature_28 : decode cX6_setTemperature 28 = .ok (.dload_n 3, 1) := by decide +kernel
theorem dX6_setTemperature_29 : decode cX6_setTemperature 29 = .ok (.ldc2_w 77, 3) := by decide +kernel
theorem dX6_setTemperature_32 : decode cX6_setTemperature 32 = .ok (.dcmp .g, 1) := by decide +kernel
theorem dX6_setTemperature_33 : decode cX6_setTemperature 33 = .ok (.ifCond .gt 7, 3) := by decide +kernel
theorem dX6_setTemperature_36 : decode cX6_setTemperature 36 = .ok (.iconst 1, 1) := by decide +kernel
theorem dX6_setTemperature_37 : decode cX6_setTemperature 37 = .ok (.goto 4, 3) := by decide +kernel
theorem dX6_setTemperature_40 : decode cX6_setTemperature 40 = .ok (.iconst 0, 1) := by decide +kernel
theorem dX6_setTemperature_41 : decode cX6_setTemperature 41 = .ok (.istore 5, 2) := by decide +kernel
theorem dX6_setTemperature_43 : decode cX6_setTemperature 43 = .ok (.iload 5, 2) := by decide +kernel
theorem dX6_setTemperature_45 : decode cX6_setTemperature 45 = .ok (.ifCond .ne 6, 3) := by decide +kernel
theorem dX6_setTemperature_48 : decode cX6_setTemperature 48 = .ok (.bipush (-2), 2) := by decide +kernel
theorem dX6_setTemperature_50 : decode cX6_setTemperature 50 = .ok (.ireturn, 1) := by decide +kernel
theorem dX6_setTemperature_51 : decode cX6_setTemperature 51 = .ok (.aload_n 0, 1) := by decide +kernel
theorem dX6_setTemperature_52 : decode cX6_setTemperature 52 = .ok (.getfield 19, 3) := by decide +kernel
theorem dX6_setTemperature_55 : decode cX6_setTemperature 55 = .ok (.iconst 0, 1) := by decide +kernel
theorem dX6_setTemperature_56 : decode cX6_setTemperature 56 = .ok (.daload, 1) := by decide +kernel
theorem dX6_setTemperature_57 : decode cX6_setTemperature 57 = .ok (.dload_n 3, 1) := by decide +kernel
theorem dX6_setTemperature_58 : decode cX6_setTemperature 58 = .ok (.dcmp .l, 1) := by decide +kernel
theorem dX6_setTemperature_59 : decode cX6_setTemperature 59 = .ok (.ifCond .ne 6, 3) := by decide +kernel
theorem dX6_setTemperature_62 : decode cX6_setTemperature 62 = .ok (.bipush (-5), 2) := by decide +kernel
theorem dX6_setTemperature_64 : decode cX6_setTemperature 64 = .ok (.ireturn, 1) := by decide +kernel
theorem dX6_setTemperature_65 : decode cX6_setTemperature 65 = .ok (.aload_n 0, 1) := by decide +kernel
theorem dX6_setTemperature_66 : decode cX6_setTemperature 66 = .ok (.invokevirtual 49, 3) := by decide +kernel
theorem dX6_setTemperature_69 : decode cX6_setTemperature 69 = .ok (.aload_n 0, 1) := by decide +kernel
theorem dX6_setTemperature_70 : decode cX6_setTemperature 70 = .ok (.getfield 19, 3) := by decide +kernel
theorem dX6_setTemperature_73 : decode cX6_setTemperature 73 = .ok (.iconst 0, 1) := by decide +kernel
theorem dX6_setTemperature_74 : decode cX6_setTemperature 74 = .ok (.dload_n 3, 1) := by decide +kernel
theorem dX6_setTemperature_75 : decode cX6_setTemperature 75 = .ok (.dastore, 1) := by decide +kernel
theorem dX6_setTemperature_76 : decode cX6_setTemperature 76 = .ok (.iconst 1, 1) := by decide +kernel
theorem dX6_setTemperature_77 : decode cX6_setTemperature 77 = .ok (.ireturn, 1) := by decide +kernel
theorem dX6_baseOf_0 : decode cX6_baseOf 0 = .ok (.aload_n 0, 1) := by decide +kernel
theorem dX6_baseOf_1 : decode cX6_baseOf 1 = .ok (.getfield 19, 3) := by decide +kernel
theorem dX6_baseOf_4 : decode cX6_baseOf 4 = .ok (.bipush 7, 2) := by decide +kernel
theorem dX6_baseOf_6 : decode cX6_baseOf 6 = .ok (.iload_n 1, 1) := by decide +kernel
theorem dX6_baseOf_7 : decode cX6_baseOf 7 = .ok (.iadd, 1) := by decide +kernel
theorem dX6_baseOf_8 : decode cX6_baseOf 8 = .ok (.daload, 1) := by decide +kernel
theorem dX6_baseOf_9 : decode cX6_baseOf 9 = .ok (.dstore_n 2, 1) := by decide +kernel
theorem dX6_baseOf_10 : decode cX6_baseOf 10 = .ok (.dload_n 2, 1) := by decide +kernel
theorem dX6_baseOf_11 : decode cX6_baseOf 11 = .ok (.ldc2_w 79, 3) := by decide +kernel
theorem dX6_baseOf_14 : decode cX6_baseOf 14 = .ok (.dcmp .g, 1) := by decide +kernel
theorem dX6_baseOf_15 : decode cX6_baseOf 15 = .ok (.ifCond .ge 8, 3) := by decide +kernel
theorem dX6_baseOf_18 : decode cX6_baseOf 18 = .ok (.bipush 7, 2) := by decide +kernel
theorem dX6_baseOf_20 : decode cX6_baseOf 20 = .ok (.goto 28, 3) := by decide +kernel
theorem dX6_baseOf_23 : decode cX6_baseOf 23 = .ok (.dload_n 2, 1) := by decide +kernel
theorem dX6_baseOf_24 : decode cX6_baseOf 24 = .ok (.ldc2_w 77, 3) := by decide +kernel
theorem dX6_baseOf_27 : decode cX6_baseOf 27 = .ok (.dcmp .g, 1) := by decide +kernel
theorem dX6_baseOf_28 : decode cX6_baseOf 28 = .ok (.ifCond .ge 7, 3) := by decide +kernel
theorem dX6_baseOf_31 : decode cX6_baseOf 31 = .ok (.iconst 5, 1) := by decide +kernel
theorem dX6_baseOf_32 : decode cX6_baseOf 32 = .ok (.goto 16, 3) := by decide +kernel
theorem dX6_baseOf_35 : decode cX6_baseOf 35 = .ok (.dload_n 2, 1) := by decide +kernel
theorem dX6_baseOf_36 : decode cX6_baseOf 36 = .ok (.ldc2_w 81, 3) := by decide +kernel
theorem dX6_baseOf_39 : decode cX6_baseOf 39 = .ok (.dcmp .g, 1) := by decide +kernel
theorem dX6_baseOf_40 : decode cX6_baseOf 40 = .ok (.ifCond .ge 7, 3) := by decide +kernel
theorem dX6_baseOf_43 : decode cX6_baseOf 43 = .ok (.iconst 3, 1) := by decide +kernel
theorem dX6_baseOf_44 : decode cX6_baseOf 44 = .ok (.goto 4, 3) := by decide +kernel
theorem dX6_baseOf_47 : decode cX6_baseOf 47 = .ok (.iconst 1, 1) := by decide +kernel
theorem dX6_baseOf_48 : decode cX6_baseOf 48 = .ok (.ireturn, 1) := by decide +kernel
theorem dX6_ratio_0 : decode cX6_ratio 0 = .ok (.aload_n 0, 1) := by decide +kernel
theorem dX6_ratio_1 : decode cX6_ratio 1 = .ok (.iload_n 1, 1) := by decide +kernel
theorem dX6_ratio_2 : decode cX6_ratio 2 = .ok (.invokevirtual 83, 3) := by decide +kernel
theorem dX6_ratio_5 : decode cX6_ratio 5 = .ok (.aload_n 0, 1) := by decide +kernel
theorem dX6_ratio_6 : decode cX6_ratio 6 = .ok (.iload_n 2, 1) := by decide +kernel
theorem dX6_ratio_7 : decode cX6_ratio 7 = .ok (.iconst 0, 1) := by decide +kernel
theorem dX6_ratio_8 : decode cX6_ratio 8 = .ok (.invokevirtual 56, 3) := by decide +kernel
theorem dX6_ratio_11 : decode cX6_ratio 11 = .ok (.iadd, 1) := by decide +kernel
theorem dX6_ratio_12 : decode cX6_ratio 12 = .ok (.iconst 2, 1) := by decide +kernel
theorem dX6_ratio_13 : decode cX6_ratio 13 = .ok (.isub, 1) := by decide +kernel
theorem dX6_ratio_14 : decode cX6_ratio 14 = .ok (.istore_n 3, 1) := by decide +kernel
theorem dX6_ratio_15 : decode cX6_ratio 15 = .ok (.iload_n 3, 1) := by decide +kernel
theorem dX6_ratio_16 : decode cX6_ratio 16 = .ok (.iconst 1, 1) := by decide +kernel
theorem dX6_ratio_17 : decode cX6_ratio 17 = .ok (.if_icmp .ge 7, 3) := by decide +kernel
theorem dX6_ratio_20 : decode cX6_ratio 20 = .ok (.iconst 1, 1) := by decide +kernel
theorem dX6_ratio_21 : decode cX6_ratio 21 = .ok (.goto 4, 3) := by decide +kernel
theorem dX6_ratio_24 : decode cX6_ratio 24 = .ok (.iload_n 3, 1) := by decide +kernel
theorem dX6_ratio_25 : decode cX6_ratio 25 = .ok (.ireturn, 1) := by decide +kernel
theorem dX6_guideOn_0 : decode cX6_guideOn 0 = .ok (.aload_n 0, 1) := by decide +kernel
theorem dX6_guideOn_1 : decode cX6_guideOn 1 = .ok (.iload_n 1, 1) := by decide +kernel
theorem dX6_guideOn_2 : decode cX6_guideOn 2 = .ok (.bipush 8, 2) := by decide +kernel
theorem dX6_guideOn_4 : decode cX6_guideOn 4 = .ok (.iload_n 2, 1) := by decide +kernel
theorem dX6_guideOn_5 : decode cX6_guideOn 5 = .ok (.iadd, 1) := by decide +kernel
theorem dX6_guideOn_6 : decode cX6_guideOn 6 = .ok (.invokevirtual 41, 3) := by decide +kernel
theorem dX6_guideOn_9 : decode cX6_guideOn 9 = .ok (.ireturn, 1) := by decide +kernel
theorem dX6_onRope_0 : decode cX6_onRope 0 = .ok (.aload_n 0, 1) := by decide +kernel
theorem dX6_onRope_1 : decode cX6_onRope 1 = .ok (.iload_n 1, 1) := by decide +kernel
theorem dX6_onRope_2 : decode cX6_onRope 2 = .ok (.iconst 3, 1) := by decide +kernel
theorem dX6_onRope_3 : decode cX6_onRope 3 = .ok (.invokevirtual 41, 3) := by decide +kernel
theorem dX6_onRope_6 : decode cX6_onRope 6 = .ok (.istore_n 3, 1) := by decide +kernel
theorem dX6_onRope_7 : decode cX6_onRope 7 = .ok (.iconst 0, 1) := by decide +kernel
theorem dX6_onRope_8 : decode cX6_onRope 8 = .ok (.istore 4, 2) := by decide +kernel
theorem dX6_onRope_10 : decode cX6_onRope 10 = .ok (.iload 4, 2) := by decide +kernel
theorem dX6_onRope_12 : decode cX6_onRope 12 = .ok (.aload_n 0, 1) := by decide +kernel
theorem dX6_onRope_13 : decode cX6_onRope 13 = .ok (.iload_n 1, 1) := by decide +kernel
theorem dX6_onRope_14 : decode cX6_onRope 14 = .ok (.iconst 4, 1) := by decide +kernel
theorem dX6_onRope_15 : decode cX6_onRope 15 = .ok (.invokevirtual 41, 3) := by decide +kernel
theorem dX6_onRope_18 : decode cX6_onRope 18 = .ok (.if_icmp .ge 57, 3) := by decide +kernel
theorem dX6_onRope_21 : decode cX6_onRope 21 = .ok (.aload_n 0, 1) := by decide +kernel
theorem dX6_onRope_22 : decode cX6_onRope 22 = .ok (.iload_n 1, 1) := by decide +kernel
theorem dX6_onRope_23 : decode cX6_onRope 23 = .ok (.aload_n 0, 1) := by decide +kernel
theorem dX6_onRope_24 : decode cX6_onRope 24 = .ok (.iload_n 1, 1) := by decide +kernel
theorem dX6_onRope_25 : decode cX6_onRope 25 = .ok (.iload 4, 2) := by decide +kernel
theorem dX6_onRope_27 : decode cX6_onRope 27 = .ok (.invokevirtual 87, 3) := by decide +kernel
theorem dX6_onRope_30 : decode cX6_onRope 30 = .ok (.invokevirtual 90, 3) := by decide +kernel
theorem dX6_onRope_33 : decode cX6_onRope 33 = .ok (.iload_n 3, 1) := by decide +kernel
theorem dX6_onRope_34 : decode cX6_onRope 34 = .ok (.if_icmp .ge 18, 3) := by decide +kernel
theorem dX6_onRope_37 : decode cX6_onRope 37 = .ok (.aload_n 0, 1) := by decide +kernel
theorem dX6_onRope_38 : decode cX6_onRope 38 = .ok (.iload_n 1, 1) := by decide +kernel
theorem dX6_onRope_39 : decode cX6_onRope 39 = .ok (.aload_n 0, 1) := by decide +kernel
theorem dX6_onRope_40 : decode cX6_onRope 40 = .ok (.iload_n 1, 1) := by decide +kernel
theorem dX6_onRope_41 : decode cX6_onRope 41 = .ok (.iload 4, 2) := by decide +kernel
theorem dX6_onRope_43 : decode cX6_onRope 43 = .ok (.invokevirtual 87, 3) := by decide +kernel
theorem dX6_onRope_46 : decode cX6_onRope 46 = .ok (.invokevirtual 90, 3) := by decide +kernel
theorem dX6_onRope_49 : decode cX6_onRope 49 = .ok (.goto 4, 3) := by decide +kernel
theorem dX6_onRope_52 : decode cX6_onRope 52 = .ok (.iload_n 3, 1) := by decide +kernel
theorem dX6_onRope_53 : decode cX6_onRope 53 = .ok (.istore 5, 2) := by decide +kernel
theorem dX6_onRope_55 : decode cX6_onRope 55 = .ok (.iload 4, 2) := by decide +kernel
theorem dX6_onRope_57 : decode cX6_onRope 57 = .ok (.iload_n 2, 1) := by decide +kernel
theorem dX6_onRope_58 : decode cX6_onRope 58 = .ok (.if_icmp .ne 6, 3) := by decide +kernel
theorem dX6_onRope_61 : decode cX6_onRope 61 = .ok (.iload 5, 2) := by decide +kernel
theorem dX6_onRope_63 : decode cX6_onRope 63 = .ok (.ireturn, 1) := by decide +kernel
theorem dX6_onRope_64 : decode cX6_onRope 64 = .ok (.iload_n 3, 1) := by decide +kernel
theorem dX6_onRope_65 : decode cX6_onRope 65 = .ok (.iload 5, 2) := by decide +kernel
theorem dX6_onRope_67 : decode cX6_onRope 67 = .ok (.isub, 1) := by decide +kernel
theorem dX6_onRope_68 : decode cX6_onRope 68 = .ok (.istore_n 3, 1) := by decide +kernel
theorem dX6_onRope_69 : decode cX6_onRope 69 = .ok (.iinc 4 1, 3) := by decide +kernel
theorem dX6_onRope_72 : decode cX6_onRope 72 = .ok (.goto (-62), 3) := by decide +kernel
theorem dX6_onRope_75 : decode cX6_onRope 75 = .ok (.iload_n 3, 1) := by decide +kernel
theorem dX6_onRope_76 : decode cX6_onRope 76 = .ok (.ireturn, 1) := by decide +kernel
theorem dX6_leftOver_0 : decode cX6_leftOver 0 = .ok (.aload_n 0, 1) := by decide +kernel
theorem dX6_leftOver_1 : decode cX6_leftOver 1 = .ok (.iload_n 1, 1) := by decide +kernel
theorem dX6_leftOver_2 : decode cX6_leftOver 2 = .ok (.aload_n 0, 1) := by decide +kernel
theorem dX6_leftOver_3 : decode cX6_leftOver 3 = .ok (.iload_n 1, 1) := by decide +kernel
theorem dX6_leftOver_4 : decode cX6_leftOver 4 = .ok (.iconst 4, 1) := by decide +kernel
theorem dX6_leftOver_5 : decode cX6_leftOver 5 = .ok (.invokevirtual 41, 3) := by decide +kernel
theorem dX6_leftOver_8 : decode cX6_leftOver 8 = .ok (.invokevirtual 93, 3) := by decide +kernel
theorem dX6_leftOver_11 : decode cX6_leftOver 11 = .ok (.ireturn, 1) := by decide +kernel
theorem dX6_neededBy_0 : decode cX6_neededBy 0 = .ok (.iconst 0, 1) := by decide +kernel
theorem dX6_neededBy_1 : decode cX6_neededBy 1 = .ok (.istore_n 2, 1) := by decide +kernel
theorem dX6_neededBy_2 : decode cX6_neededBy 2 = .ok (.iconst 0, 1) := by decide +kernel
theorem dX6_neededBy_3 : decode cX6_neededBy 3 = .ok (.istore_n 3, 1) := by decide +kernel
theorem dX6_neededBy_4 : decode cX6_neededBy 4 = .ok (.iload_n 3, 1) := by decide +kernel
theorem dX6_neededBy_5 : decode cX6_neededBy 5 = .ok (.aload_n 0, 1) := by decide +kernel
theorem dX6_neededBy_6 : decode cX6_neededBy 6 = .ok (.iload_n 1, 1) := by decide +kernel
theorem dX6_neededBy_7 : decode cX6_neededBy 7 = .ok (.iconst 4, 1) := by decide +kernel
theorem dX6_neededBy_8 : decode cX6_neededBy 8 = .ok (.invokevirtual 41, 3) := by decide +kernel
theorem dX6_neededBy_11 : decode cX6_neededBy 11 = .ok (.if_icmp .ge 30, 3) := by decide +kernel
theorem dX6_neededBy_14 : decode cX6_neededBy 14 = .ok (.aload_n 0, 1) := by decide +kernel
theorem dX6_neededBy_15 : decode cX6_neededBy 15 = .ok (.iload_n 1, 1) := by decide +kernel
theorem dX6_neededBy_16 : decode cX6_neededBy 16 = .ok (.iload_n 3, 1) := by decide +kernel
theorem dX6_neededBy_17 : decode cX6_neededBy 17 = .ok (.invokevirtual 93, 3) := by decide +kernel
theorem dX6_neededBy_20 : decode cX6_neededBy 20 = .ok (.iload_n 2, 1) := by decide +kernel
theorem dX6_neededBy_21 : decode cX6_neededBy 21 = .ok (.if_icmp .le 12, 3) := by decide +kernel
theorem dX6_neededBy_24 : decode cX6_neededBy 24 = .ok (.aload_n 0, 1) := by decide +kernel
theorem dX6_neededBy_25 : decode cX6_neededBy 25 = .ok (.iload_n 1, 1) := by decide +kernel
theorem dX6_neededBy_26 : decode cX6_neededBy 26 = .ok (.iload_n 3, 1) := by decide +kernel
theorem dX6_neededBy_27 : decode cX6_neededBy 27 = .ok (.invokevirtual 93, 3) := by decide +kernel
theorem dX6_neededBy_30 : decode cX6_neededBy 30 = .ok (.goto 4, 3) := by decide +kernel
theorem dX6_neededBy_33 : decode cX6_neededBy 33 = .ok (.iload_n 2, 1) := by decide +kernel
theorem dX6_neededBy_34 : decode cX6_neededBy 34 = .ok (.istore_n 2, 1) := by decide +kernel
theorem dX6_neededBy_35 : decode cX6_neededBy 35 = .ok (.iinc 3 1, 3) := by decide +kernel
theorem dX6_neededBy_38 : decode cX6_neededBy 38 = .ok (.goto (-34), 3) := by decide +kernel
theorem dX6_neededBy_41 : decode cX6_neededBy 41 = .ok (.iload_n 2, 1) := by decide +kernel
theorem dX6_neededBy_42 : decode cX6_neededBy 42 = .ok (.iconst 1, 1) := by decide +kernel
theorem dX6_neededBy_43 : decode cX6_neededBy 43 = .ok (.iadd, 1) := by decide +kernel
theorem dX6_neededBy_44 : decode cX6_neededBy 44 = .ok (.istore_n 3, 1) := by decide +kernel
theorem dX6_neededBy_45 : decode cX6_neededBy 45 = .ok (.ldc2_w 79, 3) := by decide +kernel
theorem dX6_neededBy_48 : decode cX6_neededBy 48 = .ok (.ldc2_w 96, 3) := by decide +kernel
theorem dX6_neededBy_51 : decode cX6_neededBy 51 = .ok (.iload_n 3, 1) := by decide +kernel
theorem dX6_neededBy_52 : decode cX6_neededBy 52 = .ok (.i2d, 1) := by decide +kernel
theorem dX6_neededBy_53 : decode cX6_neededBy 53 = .ok (.dmul, 1) := by decide +kernel
theorem dX6_neededBy_54 : decode cX6_neededBy 54 = .ok (.dadd, 1) := by decide +kernel
theorem dX6_neededBy_55 : decode cX6_neededBy 55 = .ok (.dreturn, 1) := by decide +kernel
theorem dX6_isHeld_0 : decode cX6_isHeld 0 = .ok (.aload_n 0, 1) := by decide +kernel
theorem dX6_isHeld_1 : decode cX6_isHeld 1 = .ok (.getfield 19, 3) := by decide +kernel
theorem dX6_isHeld_4 : decode cX6_isHeld 4 = .ok (.iconst 1, 1) := by decide +kernel
theorem dX6_isHeld_5 : decode cX6_isHeld 5 = .ok (.iload_n 2, 1) := by decide +kernel
theorem dX6_isHeld_6 : decode cX6_isHeld 6 = .ok (.iadd, 1) := by decide +kernel
theorem dX6_isHeld_7 : decode cX6_isHeld 7 = .ok (.daload, 1) := by decide +kernel
theorem dX6_isHeld_8 : decode cX6_isHeld 8 = .ok (.aload_n 0, 1) := by decide +kernel
theorem dX6_isHeld_9 : decode cX6_isHeld 9 = .ok (.iload_n 1, 1) := by decide +kernel
theorem dX6_isHeld_10 : decode cX6_isHeld 10 = .ok (.invokevirtual 98, 3) := by decide +kernel
theorem dX6_isHeld_13 : decode cX6_isHeld 13 = .ok (.dcmp .l, 1) := by decide +kernel
theorem dX6_isHeld_14 : decode cX6_isHeld 14 = .ok (.ifCond .lt 7, 3) := by decide +kernel
theorem dX6_isHeld_17 : decode cX6_isHeld 17 = .ok (.iconst 1, 1) := by decide +kernel
theorem dX6_isHeld_18 : decode cX6_isHeld 18 = .ok (.goto 4, 3) := by decide +kernel
theorem dX6_isHeld_21 : decode cX6_isHeld 21 = .ok (.iconst 0, 1) := by decide +kernel
theorem dX6_isHeld_22 : decode cX6_isHeld 22 = .ok (.ireturn, 1) := by decide +kernel
theorem dX6_causeOf_0 : decode cX6_causeOf 0 = .ok (.aload_n 0, 1) := by decide +kernel
theorem dX6_causeOf_1 : decode cX6_causeOf 1 = .ok (.iload_n 1, 1) := by decide +kernel
theorem dX6_causeOf_2 : decode cX6_causeOf 2 = .ok (.iconst 3, 1) := by decide +kernel
theorem dX6_causeOf_3 : decode cX6_causeOf 3 = .ok (.invokevirtual 41, 3) := by decide +kernel
theorem dX6_causeOf_6 : decode cX6_causeOf 6 = .ok (.ifCond .ne 5, 3) := by decide +kernel
theorem dX6_causeOf_9 : decode cX6_causeOf 9 = .ok (.iconst 1, 1) := by decide +kernel
theorem dX6_causeOf_10 : decode cX6_causeOf 10 = .ok (.ireturn, 1) := by decide +kernel
theorem dX6_causeOf_11 : decode cX6_causeOf 11 = .ok (.iconst 0, 1) := by decide +kernel
theorem dX6_causeOf_12 : decode cX6_causeOf 12 = .ok (.istore_n 2, 1) := by decide +kernel
theorem dX6_causeOf_13 : decode cX6_causeOf 13 = .ok (.iload_n 2, 1) := by decide +kernel
theorem dX6_causeOf_14 : decode cX6_causeOf 14 = .ok (.aload_n 0, 1) := by decide +kernel
theorem dX6_causeOf_15 : decode cX6_causeOf 15 = .ok (.getfield 7, 3) := by decide +kernel
theorem dX6_causeOf_18 : decode cX6_causeOf 18 = .ok (.iconst 2, 1) := by decide +kernel
theorem dX6_causeOf_19 : decode cX6_causeOf 19 = .ok (.iaload, 1) := by decide +kernel
theorem dX6_causeOf_20 : decode cX6_causeOf 20 = .ok (.if_icmp .ge 34, 3) := by decide +kernel
theorem dX6_causeOf_23 : decode cX6_causeOf 23 = .ok (.aload_n 0, 1) := by decide +kernel
theorem dX6_causeOf_24 : decode cX6_causeOf 24 = .ok (.iload_n 1, 1) := by decide +kernel
theorem dX6_causeOf_25 : decode cX6_causeOf 25 = .ok (.iconst 2, 1) := by decide +kernel
theorem dX6_causeOf_26 : decode cX6_causeOf 26 = .ok (.invokevirtual 41, 3) := by decide +kernel
theorem dX6_causeOf_29 : decode cX6_causeOf 29 = .ok (.iload_n 2, 1) := by decide +kernel
theorem dX6_causeOf_30 : decode cX6_causeOf 30 = .ok (.ishr, 1) := by decide +kernel
theorem dX6_causeOf_31 : decode cX6_causeOf 31 = .ok (.iconst 1, 1) := by decide +kernel
theorem dX6_causeOf_32 : decode cX6_causeOf 32 = .ok (.iand, 1) := by decide +kernel
theorem dX6_causeOf_33 : decode cX6_causeOf 33 = .ok (.iconst 1, 1) := by decide +kernel
theorem dX6_causeOf_34 : decode cX6_causeOf 34 = .ok (.if_icmp .ne 14, 3) := by decide +kernel
theorem dX6_causeOf_37 : decode cX6_causeOf 37 = .ok (.aload_n 0, 1) := by decide +kernel
theorem dX6_causeOf_38 : decode cX6_causeOf 38 = .ok (.iload_n 1, 1) := by decide +kernel
theorem dX6_causeOf_39 : decode cX6_causeOf 39 = .ok (.iload_n 2, 1) := by decide +kernel
theorem dX6_causeOf_40 : decode cX6_causeOf 40 = .ok (.invokevirtual 102, 3) := by decide +kernel
theorem dX6_causeOf_43 : decode cX6_causeOf 43 = .ok (.ifCond .ne 5, 3) := by decide +kernel
theorem dX6_causeOf_46 : decode cX6_causeOf 46 = .ok (.iconst 2, 1) := by decide +kernel
theorem dX6_causeOf_47 : decode cX6_causeOf 47 = .ok (.ireturn, 1) := by decide +kernel
theorem dX6_causeOf_48 : decode cX6_causeOf 48 = .ok (.iinc 2 1, 3) := by decide +kernel
theorem dX6_causeOf_51 : decode cX6_causeOf 51 = .ok (.goto (-38), 3) := by decide +kernel
theorem dX6_causeOf_54 : decode cX6_causeOf 54 = .ok (.aload_n 0, 1) := by decide +kernel
theorem dX6_causeOf_55 : decode cX6_causeOf 55 = .ok (.iload_n 1, 1) := by decide +kernel
theorem dX6_causeOf_56 : decode cX6_causeOf 56 = .ok (.invokevirtual 105, 3) := by decide +kernel
theorem dX6_causeOf_59 : decode cX6_causeOf 59 = .ok (.ifCond .ne 7, 3) := by decide +kernel
theorem dX6_causeOf_62 : decode cX6_causeOf 62 = .ok (.iconst 1, 1) := by decide +kernel
theorem dX6_causeOf_63 : decode cX6_causeOf 63 = .ok (.goto 4, 3) := by decide +kernel
theorem dX6_causeOf_66 : decode cX6_causeOf 66 = .ok (.iconst 0, 1) := by decide +kernel
theorem dX6_causeOf_67 : decode cX6_causeOf 67 = .ok (.istore_n 2, 1) := by decide +kernel
theorem dX6_causeOf_68 : decode cX6_causeOf 68 = .ok (.iconst 0, 1) := by decide +kernel
theorem dX6_causeOf_69 : decode cX6_causeOf 69 = .ok (.istore_n 3, 1) := by decide +kernel
theorem dX6_causeOf_70 : decode cX6_causeOf 70 = .ok (.iload_n 3, 1) := by decide +kernel
theorem dX6_causeOf_71 : decode cX6_causeOf 71 = .ok (.aload_n 0, 1) := by decide +kernel
theorem dX6_causeOf_72 : decode cX6_causeOf 72 = .ok (.iload_n 1, 1) := by decide +kernel
theorem dX6_causeOf_73 : decode cX6_causeOf 73 = .ok (.iconst 4, 1) := by decide +kernel
theorem dX6_causeOf_74 : decode cX6_causeOf 74 = .ok (.invokevirtual 41, 3) := by decide +kernel
theorem dX6_causeOf_77 : decode cX6_causeOf 77 = .ok (.if_icmp .ge 39, 3) := by decide +kernel
theorem dX6_causeOf_80 : decode cX6_causeOf 80 = .ok (.iload_n 2, 1) := by decide +kernel
theorem dX6_causeOf_81 : decode cX6_causeOf 81 = .ok (.ifCond .eq 27, 3) := by decide +kernel
theorem dX6_causeOf_84 : decode cX6_causeOf 84 = .ok (.aload_n 0, 1) := by decide +kernel
theorem dX6_causeOf_85 : decode cX6_causeOf 85 = .ok (.aload_n 0, 1) := by decide +kernel
theorem dX6_causeOf_86 : decode cX6_causeOf 86 = .ok (.iload_n 1, 1) := by decide +kernel
theorem dX6_causeOf_87 : decode cX6_causeOf 87 = .ok (.iload_n 3, 1) := by decide +kernel
theorem dX6_causeOf_88 : decode cX6_causeOf 88 = .ok (.invokevirtual 87, 3) := by decide +kernel
theorem dX6_causeOf_91 : decode cX6_causeOf 91 = .ok (.iconst 1, 1) := by decide +kernel
theorem dX6_causeOf_92 : decode cX6_causeOf 92 = .ok (.invokevirtual 56, 3) := by decide +kernel
theorem dX6_causeOf_95 : decode cX6_causeOf 95 = .ok (.aload_n 0, 1) := by decide +kernel
theorem dX6_causeOf_96 : decode cX6_causeOf 96 = .ok (.iload_n 1, 1) := by decide +kernel
theorem dX6_causeOf_97 : decode cX6_causeOf 97 = .ok (.iconst 0, 1) := by decide +kernel
theorem dX6_causeOf_98 : decode cX6_causeOf 98 = .ok (.invokevirtual 41, 3) := by decide +kernel
theorem dX6_causeOf_101 : decode cX6_causeOf 101 = .ok (.if_icmp .lt 7, 3) := by decide +kernel
theorem dX6_causeOf_104 : decode cX6_causeOf 104 = .ok (.iconst 1, 1) := by decide +kernel
theorem dX6_causeOf_105 : decode cX6_causeOf 105 = .ok (.goto 4, 3) := by decide +kernel
theorem dX6_causeOf_108 : decode cX6_causeOf 108 = .ok (.iconst 0, 1) := by decide +kernel
theorem dX6_causeOf_109 : decode cX6_causeOf 109 = .ok (.istore_n 2, 1) := by decide +kernel
theorem dX6_causeOf_110 : decode cX6_causeOf 110 = .ok (.iinc 3 1, 3) := by decide +kernel
theorem dX6_causeOf_113 : decode cX6_causeOf 113 = .ok (.goto (-43), 3) := by decide +kernel
theorem dX6_causeOf_116 : decode cX6_causeOf 116 = .ok (.iload_n 2, 1) := by decide +kernel
theorem dX6_causeOf_117 : decode cX6_causeOf 117 = .ok (.ifCond .eq 7, 3) := by decide +kernel
theorem dX6_causeOf_120 : decode cX6_causeOf 120 = .ok (.iconst 0, 1) := by decide +kernel
theorem dX6_causeOf_121 : decode cX6_causeOf 121 = .ok (.goto 4, 3) := by decide +kernel
theorem dX6_causeOf_124 : decode cX6_causeOf 124 = .ok (.iconst 3, 1) := by decide +kernel
theorem dX6_causeOf_125 : decode cX6_causeOf 125 = .ok (.ireturn, 1) := by decide +kernel
theorem dX6_addTour_0 : decode cX6_addTour 0 = .ok (.iload_n 1, 1) := by decide +kernel
theorem dX6_addTour_1 : decode cX6_addTour 1 = .ok (.aload_n 0, 1) := by decide +kernel
theorem dX6_addTour_2 : decode cX6_addTour 2 = .ok (.getfield 7, 3) := by decide +kernel
theorem dX6_addTour_5 : decode cX6_addTour 5 = .ok (.iconst 0, 1) := by decide +kernel
theorem dX6_addTour_6 : decode cX6_addTour 6 = .ok (.iaload, 1) := by decide +kernel
theorem dX6_addTour_7 : decode cX6_addTour 7 = .ok (.sipush 999, 3) := by decide +kernel
theorem dX6_addTour_10 : decode cX6_addTour 10 = .ok (.invokestatic 37, 3) := by decide +kernel
theorem dX6_addTour_13 : decode cX6_addTour 13 = .ok (.ifCond .eq 44, 3) := by decide +kernel
theorem dX6_addTour_16 : decode cX6_addTour 16 = .ok (.lload_n 2, 1) := by decide +kernel
theorem dX6_addTour_17 : decode cX6_addTour 17 = .ok (.ldc2_w 108, 3) := by decide +kernel
theorem dX6_addTour_20 : decode cX6_addTour 20 = .ok (.invokestatic 69, 3) := by decide +kernel
theorem dX6_addTour_23 : decode cX6_addTour 23 = .ok (.ifCond .eq 34, 3) := by decide +kernel
theorem dX6_addTour_26 : decode cX6_addTour 26 = .ok (.iload 4, 2) := by decide +kernel
theorem dX6_addTour_28 : decode cX6_addTour 28 = .ok (.iconst 1, 1) := by decide +kernel
theorem dX6_addTour_29 : decode cX6_addTour 29 = .ok (.sipush 9999, 3) := by decide +kernel
theorem dX6_addTour_32 : decode cX6_addTour 32 = .ok (.invokestatic 37, 3) := by decide +kernel
theorem dX6_addTour_35 : decode cX6_addTour 35 = .ok (.ifCond .eq 22, 3) := by decide +kernel
theorem dX6_addTour_38 : decode cX6_addTour 38 = .ok (.iload 5, 2) := by decide +kernel
theorem dX6_addTour_40 : decode cX6_addTour 40 = .ok (.iconst 0, 1) := by decide +kernel
theorem dX6_addTour_41 : decode cX6_addTour 41 = .ok (.iconst 1, 1) := by decide +kernel
theorem dX6_addTour_42 : decode cX6_addTour 42 = .ok (.aload_n 0, 1) := by decide +kernel
theorem dX6_addTour_43 : decode cX6_addTour 43 = .ok (.getfield 7, 3) := by decide +kernel
theorem dX6_addTour_46 : decode cX6_addTour 46 = .ok (.iconst 2, 1) := by decide +kernel
theorem dX6_addTour_47 : decode cX6_addTour 47 = .ok (.iaload, 1) := by decide +kernel
theorem dX6_addTour_48 : decode cX6_addTour 48 = .ok (.ishl, 1) := by decide +kernel
theorem dX6_addTour_49 : decode cX6_addTour 49 = .ok (.iconst 1, 1) := by decide +kernel
theorem dX6_addTour_50 : decode cX6_addTour 50 = .ok (.isub, 1) := by decide +kernel
theorem dX6_addTour_51 : decode cX6_addTour 51 = .ok (.invokestatic 37, 3) := by decide +kernel
theorem dX6_addTour_54 : decode cX6_addTour 54 = .ok (.ifCond .ne 6, 3) := by decide +kernel
theorem dX6_addTour_57 : decode cX6_addTour 57 = .ok (.bipush (-2), 2) := by decide +kernel
theorem dX6_addTour_59 : decode cX6_addTour 59 = .ok (.ireturn, 1) := by decide +kernel
theorem dX6_addTour_60 : decode cX6_addTour 60 = .ok (.aload_n 0, 1) := by decide +kernel
theorem dX6_addTour_61 : decode cX6_addTour 61 = .ok (.getfield 7, 3) := by decide +kernel
theorem dX6_addTour_64 : decode cX6_addTour 64 = .ok (.iconst 3, 1) := by decide +kernel
theorem dX6_addTour_65 : decode cX6_addTour 65 = .ok (.iaload, 1) := by decide +kernel
theorem dX6_addTour_66 : decode cX6_addTour 66 = .ok (.bipush 10, 2) := by decide +kernel
theorem dX6_addTour_68 : decode cX6_addTour 68 = .ok (.if_icmp .ne 6, 3) := by decide +kernel
theorem dX6_addTour_71 : decode cX6_addTour 71 = .ok (.bipush (-3), 2) := by decide +kernel
theorem dX6_addTour_73 : decode cX6_addTour 73 = .ok (.ireturn, 1) := by decide +kernel
theorem dX6_addTour_74 : decode cX6_addTour 74 = .ok (.aload_n 0, 1) := by decide +kernel
theorem dX6_addTour_75 : decode cX6_addTour 75 = .ok (.invokevirtual 49, 3) := by decide +kernel
theorem dX6_addTour_78 : decode cX6_addTour 78 = .ok (.aload_n 0, 1) := by decide +kernel
theorem dX6_addTour_79 : decode cX6_addTour 79 = .ok (.getfield 7, 3) := by decide +kernel
theorem dX6_addTour_82 : decode cX6_addTour 82 = .ok (.iconst 3, 1) := by decide +kernel
theorem dX6_addTour_83 : decode cX6_addTour 83 = .ok (.iaload, 1) := by decide +kernel
theorem dX6_addTour_84 : decode cX6_addTour 84 = .ok (.istore 6, 2) := by decide +kernel
theorem dX6_addTour_86 : decode cX6_addTour 86 = .ok (.aload_n 0, 1) := by decide +kernel
theorem dX6_addTour_87 : decode cX6_addTour 87 = .ok (.getfield 7, 3) := by decide +kernel
theorem dX6_addTour_90 : decode cX6_addTour 90 = .ok (.iconst 3, 1) := by decide +kernel
theorem dX6_addTour_91 : decode cX6_addTour 91 = .ok (.dup2, 1) := by decide +kernel
theorem dX6_addTour_92 : decode cX6_addTour 92 = .ok (.iaload, 1) := by decide +kernel
theorem dX6_addTour_93 : decode cX6_addTour 93 = .ok (.iconst 1, 1) := by decide +kernel
theorem dX6_addTour_94 : decode cX6_addTour 94 = .ok (.iadd, 1) := by decide +kernel
theorem dX6_addTour_95 : decode cX6_addTour 95 = .ok (.iastore, 1) := by decide +kernel
theorem dX6_addTour_96 : decode cX6_addTour 96 = .ok (.iconst 0, 1) := by decide +kernel
theorem dX6_addTour_97 : decode cX6_addTour 97 = .ok (.istore 7, 2) := by decide +kernel
theorem dX6_addTour_99 : decode cX6_addTour 99 = .ok (.iload 7, 2) := by decide +kernel
theorem dX6_addTour_101 : decode cX6_addTour 101 = .ok (.bipush 14, 2) := by decide +kernel
theorem dX6_addTour_103 : decode cX6_addTour 103 = .ok (.if_icmp .ge 18, 3) := by decide +kernel
theorem dX6_addTour_106 : decode cX6_addTour 106 = .ok (.aload_n 0, 1) := by decide +kernel
theorem dX6_addTour_107 : decode cX6_addTour 107 = .ok (.iload 6, 2) := by decide +kernel
theorem dX6_addTour_109 : decode cX6_addTour 109 = .ok (.iload 7, 2) := by decide +kernel
theorem dX6_addTour_111 : decode cX6_addTour 111 = .ok (.iconst 0, 1) := by decide +kernel
theorem dX6_addTour_112 : decode cX6_addTour 112 = .ok (.invokevirtual 110, 3) := by decide +kernel
theorem dX6_addTour_115 : decode cX6_addTour 115 = .ok (.iinc 7 1, 3) := by decide +kernel
theorem dX6_addTour_118 : decode cX6_addTour 118 = .ok (.goto (-19), 3) := by decide +kernel
theorem dX6_addTour_121 : decode cX6_addTour 121 = .ok (.aload_n 0, 1) := by decide +kernel
theorem dX6_addTour_122 : decode cX6_addTour 122 = .ok (.iload 6, 2) := by decide +kernel
theorem dX6_addTour_124 : decode cX6_addTour 124 = .ok (.iconst 0, 1) := by decide +kernel
theorem dX6_addTour_125 : decode cX6_addTour 125 = .ok (.iload_n 1, 1) := by decide +kernel
theorem dX6_addTour_126 : decode cX6_addTour 126 = .ok (.invokevirtual 110, 3) := by decide +kernel
theorem dX6_addTour_129 : decode cX6_addTour 129 = .ok (.aload_n 0, 1) := by decide +kernel
theorem dX6_addTour_130 : decode cX6_addTour 130 = .ok (.iload 6, 2) := by decide +kernel
theorem dX6_addTour_132 : decode cX6_addTour 132 = .ok (.iconst 1, 1) := by decide +kernel
theorem dX6_addTour_133 : decode cX6_addTour 133 = .ok (.iload 4, 2) := by decide +kernel
theorem dX6_addTour_135 : decode cX6_addTour 135 = .ok (.invokevirtual 110, 3) := by decide +kernel
theorem dX6_addTour_138 : decode cX6_addTour 138 = .ok (.aload_n 0, 1) := by decide +kernel
theorem dX6_addTour_139 : decode cX6_addTour 139 = .ok (.iload 6, 2) := by decide +kernel
theorem dX6_addTour_141 : decode cX6_addTour 141 = .ok (.iconst 2, 1) := by decide +kernel
theorem dX6_addTour_142 : decode cX6_addTour 142 = .ok (.iload 5, 2) := by decide +kernel
theorem dX6_addTour_144 : decode cX6_addTour 144 = .ok (.invokevirtual 110, 3) := by decide +kernel
theorem dX6_addTour_147 : decode cX6_addTour 147 = .ok (.aload_n 0, 1) := by decide +kernel
theorem dX6_addTour_148 : decode cX6_addTour 148 = .ok (.getfield 19, 3) := by decide +kernel
theorem dX6_addTour_151 : decode cX6_addTour 151 = .ok (.bipush 7, 2) := by decide +kernel
theorem dX6_addTour_153 : decode cX6_addTour 153 = .ok (.iload 6, 2) := by decide +kernel
theorem dX6_addTour_155 : decode cX6_addTour 155 = .ok (.iadd, 1) := by decide +kernel
theorem dX6_addTour_156 : decode cX6_addTour 156 = .ok (.lload_n 2, 1) := by decide +kernel
theorem dX6_addTour_157 : decode cX6_addTour 157 = .ok (.invokestatic 61, 3) := by decide +kernel
theorem dX6_addTour_160 : decode cX6_addTour 160 = .ok (.dastore, 1) := by decide +kernel
theorem dX6_addTour_161 : decode cX6_addTour 161 = .ok (.iload 6, 2) := by decide +kernel
theorem dX6_addTour_163 : decode cX6_addTour 163 = .ok (.ireturn, 1) := by decide +kernel
theorem dX6_book_0 : decode cX6_book 0 = .ok (.aload_n 0, 1) := by decide +kernel
theorem dX6_book_1 : decode cX6_book 1 = .ok (.iload_n 1, 1) := by decide +kernel
theorem dX6_book_2 : decode cX6_book 2 = .ok (.invokevirtual 114, 3) := by decide +kernel
theorem dX6_book_5 : decode cX6_book 5 = .ok (.ifCond .eq 5, 3) := by decide +kernel
theorem dX6_book_8 : decode cX6_book 8 = .ok (.iconst (-1), 1) := by decide +kernel
theorem dX6_book_9 : decode cX6_book 9 = .ok (.ireturn, 1) := by decide +kernel
theorem dX6_book_10 : decode cX6_book 10 = .ok (.iload_n 2, 1) := by decide +kernel
theorem dX6_book_11 : decode cX6_book 11 = .ok (.iconst 1, 1) := by decide +kernel
theorem dX6_book_12 : decode cX6_book 12 = .ok (.bipush 12, 2) := by decide +kernel
theorem dX6_book_14 : decode cX6_book 14 = .ok (.invokestatic 37, 3) := by decide +kernel
theorem dX6_book_17 : decode cX6_book 17 = .ok (.ifCond .ne 6, 3) := by decide +kernel
theorem dX6_book_20 : decode cX6_book 20 = .ok (.bipush (-2), 2) := by decide +kernel
theorem dX6_book_22 : decode cX6_book 22 = .ok (.ireturn, 1) := by decide +kernel
theorem dX6_book_23 : decode cX6_book 23 = .ok (.aload_n 0, 1) := by decide +kernel
theorem dX6_book_24 : decode cX6_book 24 = .ok (.iload_n 1, 1) := by decide +kernel
theorem dX6_book_25 : decode cX6_book 25 = .ok (.invokevirtual 117, 3) := by decide +kernel
theorem dX6_book_28 : decode cX6_book 28 = .ok (.ifCond .ne 6, 3) := by decide +kernel
theorem dX6_book_31 : decode cX6_book 31 = .ok (.bipush (-4), 2) := by decide +kernel
theorem dX6_book_33 : decode cX6_book 33 = .ok (.ireturn, 1) := by decide +kernel
theorem dX6_book_34 : decode cX6_book 34 = .ok (.aload_n 0, 1) := by decide +kernel
theorem dX6_book_35 : decode cX6_book 35 = .ok (.iload_n 1, 1) := by decide +kernel
theorem dX6_book_36 : decode cX6_book 36 = .ok (.iconst 3, 1) := by decide +kernel
theorem dX6_book_37 : decode cX6_book 37 = .ok (.invokevirtual 41, 3) := by decide +kernel
theorem dX6_book_40 : decode cX6_book 40 = .ok (.iload_n 2, 1) := by decide +kernel
theorem dX6_book_41 : decode cX6_book 41 = .ok (.iadd, 1) := by decide +kernel
theorem dX6_book_42 : decode cX6_book 42 = .ok (.bipush 12, 2) := by decide +kernel
theorem dX6_book_44 : decode cX6_book 44 = .ok (.if_icmp .le 6, 3) := by decide +kernel
theorem dX6_book_47 : decode cX6_book 47 = .ok (.bipush (-3), 2) := by decide +kernel
theorem dX6_book_49 : decode cX6_book 49 = .ok (.ireturn, 1) := by decide +kernel
theorem dX6_book_50 : decode cX6_book 50 = .ok (.aload_n 0, 1) := by decide +kernel
theorem dX6_book_51 : decode cX6_book 51 = .ok (.invokevirtual 49, 3) := by decide +kernel
theorem dX6_book_54 : decode cX6_book 54 = .ok (.iload_n 2, 1) := by decide +kernel
theorem dX6_book_55 : decode cX6_book 55 = .ok (.aload_n 0, 1) := by decide +kernel
theorem dX6_book_56 : decode cX6_book 56 = .ok (.iload_n 1, 1) := by decide +kernel
theorem dX6_book_57 : decode cX6_book 57 = .ok (.iconst 1, 1) := by decide +kernel
theorem dX6_book_58 : decode cX6_book 58 = .ok (.invokevirtual 41, 3) := by decide +kernel
theorem dX6_book_61 : decode cX6_book 61 = .ok (.imul, 1) := by decide +kernel
theorem dX6_book_62 : decode cX6_book 62 = .ok (.istore_n 3, 1) := by decide +kernel
theorem dX6_book_63 : decode cX6_book 63 = .ok (.aload_n 0, 1) := by decide +kernel
theorem dX6_book_64 : decode cX6_book 64 = .ok (.iload_n 1, 1) := by decide +kernel
theorem dX6_book_65 : decode cX6_book 65 = .ok (.iconst 3, 1) := by decide +kernel
theorem dX6_book_66 : decode cX6_book 66 = .ok (.aload_n 0, 1) := by decide +kernel
theorem dX6_book_67 : decode cX6_book 67 = .ok (.iload_n 1, 1) := by decide +kernel
theorem dX6_book_68 : decode cX6_book 68 = .ok (.iconst 3, 1) := by decide +kernel
theorem dX6_book_69 : decode cX6_book 69 = .ok (.invokevirtual 41, 3) := by decide +kernel
theorem dX6_book_72 : decode cX6_book 72 = .ok (.iload_n 2, 1) := by decide +kernel
theorem dX6_book_73 : decode cX6_book 73 = .ok (.iadd, 1) := by decide +kernel
theorem dX6_book_74 : decode cX6_book 74 = .ok (.invokevirtual 110, 3) := by decide +kernel
theorem dX6_book_77 : decode cX6_book 77 = .ok (.aload_n 0, 1) := by decide +kernel
theorem dX6_book_78 : decode cX6_book 78 = .ok (.iload_n 1, 1) := by decide +kernel
theorem dX6_book_79 : decode cX6_book 79 = .ok (.iconst 5, 1) := by decide +kernel
theorem dX6_book_80 : decode cX6_book 80 = .ok (.aload_n 0, 1) := by decide +kernel
theorem dX6_book_81 : decode cX6_book 81 = .ok (.iload_n 1, 1) := by decide +kernel
theorem dX6_book_82 : decode cX6_book 82 = .ok (.iconst 5, 1) := by decide +kernel
theorem dX6_book_83 : decode cX6_book 83 = .ok (.invokevirtual 41, 3) := by decide +kernel
theorem dX6_book_86 : decode cX6_book 86 = .ok (.iload_n 3, 1) := by decide +kernel
theorem dX6_book_87 : decode cX6_book 87 = .ok (.iadd, 1) := by decide +kernel
theorem dX6_book_88 : decode cX6_book 88 = .ok (.invokevirtual 110, 3) := by decide +kernel
theorem dX6_book_91 : decode cX6_book 91 = .ok (.iload_n 3, 1) := by decide +kernel
theorem dX6_book_92 : decode cX6_book 92 = .ok (.ireturn, 1) := by decide +kernel
theorem dX6_refunds_0 : decode cX6_refunds 0 = .ok (.aload_n 0, 1) := by decide +kernel
theorem dX6_refunds_1 : decode cX6_refunds 1 = .ok (.iload_n 1, 1) := by decide +kernel
theorem dX6_refunds_2 : decode cX6_refunds 2 = .ok (.iconst 5, 1) := by decide +kernel
theorem dX6_refunds_3 : decode cX6_refunds 3 = .ok (.aload_n 0, 1) := by decide +kernel
theorem dX6_refunds_4 : decode cX6_refunds 4 = .ok (.iload_n 1, 1) := by decide +kernel
theorem dX6_refunds_5 : decode cX6_refunds 5 = .ok (.iconst 5, 1) := by decide +kernel
theorem dX6_refunds_6 : decode cX6_refunds 6 = .ok (.invokevirtual 41, 3) := by decide +kernel
theorem dX6_refunds_9 : decode cX6_refunds 9 = .ok (.iload_n 2, 1) := by decide +kernel
theorem dX6_refunds_10 : decode cX6_refunds 10 = .ok (.isub, 1) := by decide +kernel
theorem dX6_refunds_11 : decode cX6_refunds 11 = .ok (.invokevirtual 110, 3) := by decide +kernel
theorem dX6_refunds_14 : decode cX6_refunds 14 = .ok (.aload_n 0, 1) := by decide +kernel
theorem dX6_refunds_15 : decode cX6_refunds 15 = .ok (.getfield 7, 3) := by decide +kernel
theorem dX6_refunds_18 : decode cX6_refunds 18 = .ok (.iconst 4, 1) := by decide +kernel
theorem dX6_refunds_19 : decode cX6_refunds 19 = .ok (.dup2, 1) := by decide +kernel
theorem dX6_refunds_20 : decode cX6_refunds 20 = .ok (.iaload, 1) := by decide +kernel
theorem dX6_refunds_21 : decode cX6_refunds 21 = .ok (.iload_n 2, 1) := by decide +kernel
theorem dX6_refunds_22 : decode cX6_refunds 22 = .ok (.iadd, 1) := by decide +kernel
theorem dX6_refunds_23 : decode cX6_refunds 23 = .ok (.iastore, 1) := by decide +kernel
theorem dX6_refunds_24 : decode cX6_refunds 24 = .ok (.return_, 1) := by decide +kernel
theorem dX6_leave_0 : decode cX6_leave 0 = .ok (.aload_n 0, 1) := by decide +kernel
theorem dX6_leave_1 : decode cX6_leave 1 = .ok (.iload_n 1, 1) := by decide +kernel
theorem dX6_leave_2 : decode cX6_leave 2 = .ok (.invokevirtual 114, 3) := by decide +kernel
theorem dX6_leave_5 : decode cX6_leave 5 = .ok (.ifCond .eq 5, 3) := by decide +kernel
theorem dX6_leave_8 : decode cX6_leave 8 = .ok (.iconst (-1), 1) := by decide +kernel
theorem dX6_leave_9 : decode cX6_leave 9 = .ok (.ireturn, 1) := by decide +kernel
theorem dX6_leave_10 : decode cX6_leave 10 = .ok (.iload_n 2, 1) := by decide +kernel
theorem dX6_leave_11 : decode cX6_leave 11 = .ok (.iconst 1, 1) := by decide +kernel
theorem dX6_leave_12 : decode cX6_leave 12 = .ok (.bipush 12, 2) := by decide +kernel
theorem dX6_leave_14 : decode cX6_leave 14 = .ok (.invokestatic 37, 3) := by decide +kernel
theorem dX6_leave_17 : decode cX6_leave 17 = .ok (.ifCond .ne 6, 3) := by decide +kernel
theorem dX6_leave_20 : decode cX6_leave 20 = .ok (.bipush (-2), 2) := by decide +kernel
theorem dX6_leave_22 : decode cX6_leave 22 = .ok (.ireturn, 1) := by decide +kernel
theorem dX6_leave_23 : decode cX6_leave 23 = .ok (.aload_n 0, 1) := by decide +kernel
theorem dX6_leave_24 : decode cX6_leave 24 = .ok (.iload_n 1, 1) := by decide +kernel
theorem dX6_leave_25 : decode cX6_leave 25 = .ok (.invokevirtual 117, 3) := by decide +kernel
theorem dX6_leave_28 : decode cX6_leave 28 = .ok (.ifCond .eq 13, 3) := by decide +kernel
theorem dX6_leave_31 : decode cX6_leave 31 = .ok (.aload_n 0, 1) := by decide +kernel
theorem dX6_leave_32 : decode cX6_leave 32 = .ok (.iload_n 1, 1) := by decide +kernel
theorem dX6_leave_33 : decode cX6_leave 33 = .ok (.iconst 3, 1) := by decide +kernel
theorem dX6_leave_34 : decode cX6_leave 34 = .ok (.invokevirtual 41, 3) := by decide +kernel
theorem dX6_leave_37 : decode cX6_leave 37 = .ok (.iload_n 2, 1) := by decide +kernel
theorem dX6_leave_38 : decode cX6_leave 38 = .ok (.if_icmp .ge 6, 3) := by decide +kernel
theorem dX6_leave_41 : decode cX6_leave 41 = .ok (.bipush (-4), 2) := by decide +kernel
theorem dX6_leave_43 : decode cX6_leave 43 = .ok (.ireturn, 1) := by decide +kernel
theorem dX6_leave_44 : decode cX6_leave 44 = .ok (.aload_n 0, 1) := by decide +kernel
theorem dX6_leave_45 : decode cX6_leave 45 = .ok (.invokevirtual 49, 3) := by decide +kernel
theorem dX6_leave_48 : decode cX6_leave 48 = .ok (.aload_n 0, 1) := by decide +kernel
theorem dX6_leave_49 : decode cX6_leave 49 = .ok (.iload_n 1, 1) := by decide +kernel
theorem dX6_leave_50 : decode cX6_leave 50 = .ok (.iconst 0, 1) := by decide +kernel
theorem dX6_leave_51 : decode cX6_leave 51 = .ok (.invokevirtual 41, 3) := by decide +kernel
theorem dX6_leave_54 : decode cX6_leave 54 = .ok (.aload_n 0, 1) := by decide +kernel
theorem dX6_leave_55 : decode cX6_leave 55 = .ok (.getfield 7, 3) := by decide +kernel
theorem dX6_leave_58 : decode cX6_leave 58 = .ok (.iconst 0, 1) := by decide +kernel
theorem dX6_leave_59 : decode cX6_leave 59 = .ok (.iaload, 1) := by decide +kernel
theorem dX6_leave_60 : decode cX6_leave 60 = .ok (.isub, 1) := by decide +kernel
theorem dX6_leave_61 : decode cX6_leave 61 = .ok (.istore_n 3, 1) := by decide +kernel
theorem dX6_leave_62 : decode cX6_leave 62 = .ok (.iload_n 3, 1) := by decide +kernel
theorem dX6_leave_63 : decode cX6_leave 63 = .ok (.bipush 14, 2) := by decide +kernel
theorem dX6_leave_65 : decode cX6_leave 65 = .ok (.if_icmp .lt 7, 3) := by decide +kernel
theorem dX6_leave_68 : decode cX6_leave 68 = .ok (.dconst 1, 1) := by decide +kernel
theorem dX6_leave_69 : decode cX6_leave 69 = .ok (.goto 27, 3) := by decide +kernel
theorem dX6_leave_72 : decode cX6_leave 72 = .ok (.iload_n 3, 1) := by decide +kernel
theorem dX6_leave_73 : decode cX6_leave 73 = .ok (.bipush 7, 2) := by decide +kernel
theorem dX6_leave_75 : decode cX6_leave 75 = .ok (.if_icmp .lt 9, 3) := by decide +kernel
theorem dX6_leave_78 : decode cX6_leave 78 = .ok (.ldc2_w 120, 3) := by decide +kernel
theorem dX6_leave_81 : decode cX6_leave 81 = .ok (.goto 15, 3) := by decide +kernel
theorem dX6_leave_84 : decode cX6_leave 84 = .ok (.iload_n 3, 1) := by decide +kernel
theorem dX6_leave_85 : decode cX6_leave 85 = .ok (.iconst 3, 1) := by decide +kernel
theorem dX6_leave_86 : decode cX6_leave 86 = .ok (.if_icmp .lt 9, 3) := by decide +kernel
theorem dX6_leave_89 : decode cX6_leave 89 = .ok (.ldc2_w 122, 3) := by decide +kernel
theorem dX6_leave_92 : decode cX6_leave 92 = .ok (.goto 4, 3) := by decide +kernel
theorem dX6_leave_95 : decode cX6_leave 95 = .ok (.dconst 0, 1) := by decide +kernel
theorem dX6_leave_96 : decode cX6_leave 96 = .ok (.dstore 4, 2) := by decide +kernel
theorem dX6_leave_98 : decode cX6_leave 98 = .ok (.aload_n 0, 1) := by decide +kernel
theorem dX6_leave_99 : decode cX6_leave 99 = .ok (.iload_n 1, 1) := by decide +kernel
theorem dX6_leave_100 : decode cX6_leave 100 = .ok (.iconst 5, 1) := by decide +kernel
theorem dX6_leave_101 : decode cX6_leave 101 = .ok (.invokevirtual 41, 3) := by decide +kernel
theorem dX6_leave_104 : decode cX6_leave 104 = .ok (.i2d, 1) := by decide +kernel
theorem dX6_leave_105 : decode cX6_leave 105 = .ok (.aload_n 0, 1) := by decide +kernel
theorem dX6_leave_106 : decode cX6_leave 106 = .ok (.iload_n 1, 1) := by decide +kernel
theorem dX6_leave_107 : decode cX6_leave 107 = .ok (.iconst 3, 1) := by decide +kernel
theorem dX6_leave_108 : decode cX6_leave 108 = .ok (.invokevirtual 41, 3) := by decide +kernel
theorem dX6_leave_111 : decode cX6_leave 111 = .ok (.i2d, 1) := by decide +kernel
theorem dX6_leave_112 : decode cX6_leave 112 = .ok (.ddiv, 1) := by decide +kernel
theorem dX6_leave_113 : decode cX6_leave 113 = .ok (.iload_n 2, 1) := by decide +kernel
theorem dX6_leave_114 : decode cX6_leave 114 = .ok (.i2d, 1) := by decide +kernel
theorem dX6_leave_115 : decode cX6_leave 115 = .ok (.dmul, 1) := by decide +kernel
theorem dX6_leave_116 : decode cX6_leave 116 = .ok (.dload 4, 2) := by decide +kernel
theorem dX6_leave_118 : decode cX6_leave 118 = .ok (.dmul, 1) := by decide +kernel
theorem dX6_leave_119 : decode cX6_leave 119 = .ok (.d2i, 1) := by decide +kernel
theorem dX6_leave_120 : decode cX6_leave 120 = .ok (.istore 6, 2) := by decide +kernel
theorem dX6_leave_122 : decode cX6_leave 122 = .ok (.aload_n 0, 1) := by decide +kernel
theorem dX6_leave_123 : decode cX6_leave 123 = .ok (.iload_n 1, 1) := by decide +kernel
theorem dX6_leave_124 : decode cX6_leave 124 = .ok (.iconst 3, 1) := by decide +kernel
theorem dX6_leave_125 : decode cX6_leave 125 = .ok (.aload_n 0, 1) := by decide +kernel
theorem dX6_leave_126 : decode cX6_leave 126 = .ok (.iload_n 1, 1) := by decide +kernel
theorem dX6_leave_127 : decode cX6_leave 127 = .ok (.iconst 3, 1) := by decide +kernel
theorem dX6_leave_128 : decode cX6_leave 128 = .ok (.invokevirtual 41, 3) := by decide +kernel
theorem dX6_leave_131 : decode cX6_leave 131 = .ok (.iload_n 2, 1) := by decide +kernel
theorem dX6_leave_132 : decode cX6_leave 132 = .ok (.isub, 1) := by decide +kernel
theorem dX6_leave_133 : decode cX6_leave 133 = .ok (.invokevirtual 110, 3) := by decide +kernel
theorem dX6_leave_136 : decode cX6_leave 136 = .ok (.aload_n 0, 1) := by decide +kernel
theorem dX6_leave_137 : decode cX6_leave 137 = .ok (.iload_n 1, 1) := by decide +kernel
theorem dX6_leave_138 : decode cX6_leave 138 = .ok (.iload 6, 2) := by decide +kernel
theorem dX6_leave_140 : decode cX6_leave 140 = .ok (.invokevirtual 124, 3) := by decide +kernel
theorem dX6_leave_143 : decode cX6_leave 143 = .ok (.iload 6, 2) := by decide +kernel
theorem dX6_leave_145 : decode cX6_leave 145 = .ok (.ireturn, 1) := by decide +kernel
theorem dX6_leads_0 : decode cX6_leads 0 = .ok (.iconst 0, 1) := by decide +kernel
theorem dX6_leads_1 : decode cX6_leads 1 = .ok (.istore_n 3, 1) := by decide +kernel
theorem dX6_leads_2 : decode cX6_leads 2 = .ok (.iload_n 3, 1) := by decide +kernel
theorem dX6_leads_3 : decode cX6_leads 3 = .ok (.aload_n 0, 1) := by decide +kernel
theorem dX6_leads_4 : decode cX6_leads 4 = .ok (.iload_n 2, 1) := by decide +kernel
theorem dX6_leads_5 : decode cX6_leads 5 = .ok (.iconst 4, 1) := by decide +kernel
theorem dX6_leads_6 : decode cX6_leads 6 = .ok (.invokevirtual 41, 3) := by decide +kernel
theorem dX6_leads_9 : decode cX6_leads 9 = .ok (.if_icmp .ge 21, 3) := by decide +kernel
theorem dX6_leads_12 : decode cX6_leads 12 = .ok (.aload_n 0, 1) := by decide +kernel
theorem dX6_leads_13 : decode cX6_leads 13 = .ok (.iload_n 2, 1) := by decide +kernel
theorem dX6_leads_14 : decode cX6_leads 14 = .ok (.iload_n 3, 1) := by decide +kernel
theorem dX6_leads_15 : decode cX6_leads 15 = .ok (.invokevirtual 87, 3) := by decide +kernel
theorem dX6_leads_18 : decode cX6_leads 18 = .ok (.iload_n 1, 1) := by decide +kernel
theorem dX6_leads_19 : decode cX6_leads 19 = .ok (.if_icmp .ne 5, 3) := by decide +kernel
theorem dX6_leads_22 : decode cX6_leads 22 = .ok (.iconst 1, 1) := by decide +kernel
theorem dX6_leads_23 : decode cX6_leads 23 = .ok (.ireturn, 1) := by decide +kernel
theorem dX6_leads_24 : decode cX6_leads 24 = .ok (.iinc 3 1, 3) := by decide +kernel
theorem dX6_leads_27 : decode cX6_leads 27 = .ok (.goto (-25), 3) := by decide +kernel
theorem dX6_leads_30 : decode cX6_leads 30 = .ok (.iconst 0, 1) := by decide +kernel
theorem dX6_leads_31 : decode cX6_leads 31 = .ok (.ireturn, 1) := by decide +kernel
theorem dX6_isBusy_0 : decode cX6_isBusy 0 = .ok (.iconst 0, 1) := by decide +kernel
theorem dX6_isBusy_1 : decode cX6_isBusy 1 = .ok (.istore_n 3, 1) := by decide +kernel
theorem dX6_isBusy_2 : decode cX6_isBusy 2 = .ok (.iload_n 3, 1) := by decide +kernel
theorem dX6_isBusy_3 : decode cX6_isBusy 3 = .ok (.aload_n 0, 1) := by decide +kernel
theorem dX6_isBusy_4 : decode cX6_isBusy 4 = .ok (.getfield 7, 3) := by decide +kernel
theorem dX6_isBusy_7 : decode cX6_isBusy 7 = .ok (.iconst 3, 1) := by decide +kernel
theorem dX6_isBusy_8 : decode cX6_isBusy 8 = .ok (.iaload, 1) := by decide +kernel
theorem dX6_isBusy_9 : decode cX6_isBusy 9 = .ok (.if_icmp .ge 38, 3) := by decide +kernel
theorem dX6_isBusy_12 : decode cX6_isBusy 12 = .ok (.aload_n 0, 1) := by decide +kernel
theorem dX6_isBusy_13 : decode cX6_isBusy 13 = .ok (.iload_n 3, 1) := by decide +kernel
theorem dX6_isBusy_14 : decode cX6_isBusy 14 = .ok (.invokevirtual 117, 3) := by decide +kernel
theorem dX6_isBusy_17 : decode cX6_isBusy 17 = .ok (.ifCond .eq 24, 3) := by decide +kernel
theorem dX6_isBusy_20 : decode cX6_isBusy 20 = .ok (.aload_n 0, 1) := by decide +kernel
theorem dX6_isBusy_21 : decode cX6_isBusy 21 = .ok (.iload_n 3, 1) := by decide +kernel
theorem dX6_isBusy_22 : decode cX6_isBusy 22 = .ok (.iconst 0, 1) := by decide +kernel
theorem dX6_isBusy_23 : decode cX6_isBusy 23 = .ok (.invokevirtual 41, 3) := by decide +kernel
theorem dX6_isBusy_26 : decode cX6_isBusy 26 = .ok (.iload_n 2, 1) := by decide +kernel
theorem dX6_isBusy_27 : decode cX6_isBusy 27 = .ok (.if_icmp .ne 14, 3) := by decide +kernel
theorem dX6_isBusy_30 : decode cX6_isBusy 30 = .ok (.aload_n 0, 1) := by decide +kernel
theorem dX6_isBusy_31 : decode cX6_isBusy 31 = .ok (.iload_n 1, 1) := by decide +kernel
theorem dX6_isBusy_32 : decode cX6_isBusy 32 = .ok (.iload_n 3, 1) := by decide +kernel
theorem dX6_isBusy_33 : decode cX6_isBusy 33 = .ok (.invokevirtual 128, 3) := by decide +kernel
theorem dX6_isBusy_36 : decode cX6_isBusy 36 = .ok (.ifCond .eq 5, 3) := by decide +kernel
theorem dX6_isBusy_39 : decode cX6_isBusy 39 = .ok (.iconst 1, 1) := by decide +kernel
theorem dX6_isBusy_40 : decode cX6_isBusy 40 = .ok (.ireturn, 1) := by decide +kernel
theorem dX6_isBusy_41 : decode cX6_isBusy 41 = .ok (.iinc 3 1, 3) := by decide +kernel
theorem dX6_isBusy_44 : decode cX6_isBusy 44 = .ok (.goto (-42), 3) := by decide +kernel
theorem dX6_isBusy_47 : decode cX6_isBusy 47 = .ok (.iconst 0, 1) := by decide +kernel
theorem dX6_isBusy_48 : decode cX6_isBusy 48 = .ok (.ireturn, 1) := by decide +kernel
theorem dX6_mayLead_0 : decode cX6_mayLead 0 = .ok (.aload_n 0, 1) := by decide +kernel
theorem dX6_mayLead_1 : decode cX6_mayLead 1 = .ok (.iload_n 2, 1) := by decide +kernel
theorem dX6_mayLead_2 : decode cX6_mayLead 2 = .ok (.invokevirtual 117, 3) := by decide +kernel
theorem dX6_mayLead_5 : decode cX6_mayLead 5 = .ok (.ifCond .eq 36, 3) := by decide +kernel
theorem dX6_mayLead_8 : decode cX6_mayLead 8 = .ok (.aload_n 0, 1) := by decide +kernel
theorem dX6_mayLead_9 : decode cX6_mayLead 9 = .ok (.iload_n 1, 1) := by decide +kernel
theorem dX6_mayLead_10 : decode cX6_mayLead 10 = .ok (.iconst 1, 1) := by decide +kernel
theorem dX6_mayLead_11 : decode cX6_mayLead 11 = .ok (.invokevirtual 56, 3) := by decide +kernel
theorem dX6_mayLead_14 : decode cX6_mayLead 14 = .ok (.aload_n 0, 1) := by decide +kernel
theorem dX6_mayLead_15 : decode cX6_mayLead 15 = .ok (.iload_n 2, 1) := by decide +kernel
theorem dX6_mayLead_16 : decode cX6_mayLead 16 = .ok (.iconst 0, 1) := by decide +kernel
theorem dX6_mayLead_17 : decode cX6_mayLead 17 = .ok (.invokevirtual 41, 3) := by decide +kernel
theorem dX6_mayLead_20 : decode cX6_mayLead 20 = .ok (.if_icmp .lt 21, 3) := by decide +kernel
theorem dX6_mayLead_23 : decode cX6_mayLead 23 = .ok (.aload_n 0, 1) := by decide +kernel
theorem dX6_mayLead_24 : decode cX6_mayLead 24 = .ok (.iload_n 1, 1) := by decide +kernel
theorem dX6_mayLead_25 : decode cX6_mayLead 25 = .ok (.aload_n 0, 1) := by decide +kernel
theorem dX6_mayLead_26 : decode cX6_mayLead 26 = .ok (.iload_n 2, 1) := by decide +kernel
theorem dX6_mayLead_27 : decode cX6_mayLead 27 = .ok (.iconst 0, 1) := by decide +kernel
theorem dX6_mayLead_28 : decode cX6_mayLead 28 = .ok (.invokevirtual 41, 3) := by decide +kernel
theorem dX6_mayLead_31 : decode cX6_mayLead 31 = .ok (.invokevirtual 131, 3) := by decide +kernel
theorem dX6_mayLead_34 : decode cX6_mayLead 34 = .ok (.ifCond .ne 7, 3) := by decide +kernel
theorem dX6_mayLead_37 : decode cX6_mayLead 37 = .ok (.iconst 1, 1) := by decide +kernel
theorem dX6_mayLead_38 : decode cX6_mayLead 38 = .ok (.goto 4, 3) := by decide +kernel
theorem dX6_mayLead_41 : decode cX6_mayLead 41 = .ok (.iconst 0, 1) := by decide +kernel
theorem dX6_mayLead_42 : decode cX6_mayLead 42 = .ok (.ireturn, 1) := by decide +kernel
theorem dX6_lead_0 : decode cX6_lead 0 = .ok (.aload_n 0, 1) := by decide +kernel
theorem dX6_lead_1 : decode cX6_lead 1 = .ok (.iload_n 1, 1) := by decide +kernel
theorem dX6_lead_2 : decode cX6_lead 2 = .ok (.invokevirtual 52, 3) := by decide +kernel
theorem dX6_lead_5 : decode cX6_lead 5 = .ok (.ifCond .ne 11, 3) := by decide +kernel
theorem dX6_lead_8 : decode cX6_lead 8 = .ok (.aload_n 0, 1) := by decide +kernel
theorem dX6_lead_9 : decode cX6_lead 9 = .ok (.iload_n 2, 1) := by decide +kernel
theorem dX6_lead_10 : decode cX6_lead 10 = .ok (.invokevirtual 114, 3) := by decide +kernel
theorem dX6_lead_13 : decode cX6_lead 13 = .ok (.ifCond .eq 5, 3) := by decide +kernel
theorem dX6_lead_16 : decode cX6_lead 16 = .ok (.iconst (-1), 1) := by decide +kernel
theorem dX6_lead_17 : decode cX6_lead 17 = .ok (.ireturn, 1) := by decide +kernel
theorem dX6_lead_18 : decode cX6_lead 18 = .ok (.aload_n 0, 1) := by decide +kernel
theorem dX6_lead_19 : decode cX6_lead 19 = .ok (.iload_n 1, 1) := by decide +kernel
theorem dX6_lead_20 : decode cX6_lead 20 = .ok (.iload_n 2, 1) := by decide +kernel
theorem dX6_lead_21 : decode cX6_lead 21 = .ok (.invokevirtual 134, 3) := by decide +kernel
theorem dX6_lead_24 : decode cX6_lead 24 = .ok (.ifCond .ne 6, 3) := by decide +kernel
theorem dX6_lead_27 : decode cX6_lead 27 = .ok (.bipush (-4), 2) := by decide +kernel
theorem dX6_lead_29 : decode cX6_lead 29 = .ok (.ireturn, 1) := by decide +kernel
theorem dX6_lead_30 : decode cX6_lead 30 = .ok (.aload_n 0, 1) := by decide +kernel
theorem dX6_lead_31 : decode cX6_lead 31 = .ok (.iload_n 2, 1) := by decide +kernel
theorem dX6_lead_32 : decode cX6_lead 32 = .ok (.iconst 4, 1) := by decide +kernel
theorem dX6_lead_33 : decode cX6_lead 33 = .ok (.invokevirtual 41, 3) := by decide +kernel
theorem dX6_lead_36 : decode cX6_lead 36 = .ok (.iconst 4, 1) := by decide +kernel
theorem dX6_lead_37 : decode cX6_lead 37 = .ok (.if_icmp .ne 6, 3) := by decide +kernel
theorem dX6_lead_40 : decode cX6_lead 40 = .ok (.bipush (-3), 2) := by decide +kernel
theorem dX6_lead_42 : decode cX6_lead 42 = .ok (.ireturn, 1) := by decide +kernel
theorem dX6_lead_43 : decode cX6_lead 43 = .ok (.aload_n 0, 1) := by decide +kernel
theorem dX6_lead_44 : decode cX6_lead 44 = .ok (.invokevirtual 49, 3) := by decide +kernel
theorem dX6_lead_47 : decode cX6_lead 47 = .ok (.aload_n 0, 1) := by decide +kernel
theorem dX6_lead_48 : decode cX6_lead 48 = .ok (.iload_n 2, 1) := by decide +kernel
theorem dX6_lead_49 : decode cX6_lead 49 = .ok (.bipush 8, 2) := by decide +kernel
theorem dX6_lead_51 : decode cX6_lead 51 = .ok (.aload_n 0, 1) := by decide +kernel
theorem dX6_lead_52 : decode cX6_lead 52 = .ok (.iload_n 2, 1) := by decide +kernel
theorem dX6_lead_53 : decode cX6_lead 53 = .ok (.iconst 4, 1) := by decide +kernel
theorem dX6_lead_54 : decode cX6_lead 54 = .ok (.invokevirtual 41, 3) := by decide +kernel
theorem dX6_lead_57 : decode cX6_lead 57 = .ok (.iadd, 1) := by decide +kernel
theorem dX6_lead_58 : decode cX6_lead 58 = .ok (.iload_n 1, 1) := by decide +kernel
theorem dX6_lead_59 : decode cX6_lead 59 = .ok (.invokevirtual 110, 3) := by decide +kernel
theorem dX6_lead_62 : decode cX6_lead 62 = .ok (.aload_n 0, 1) := by decide +kernel
theorem dX6_lead_63 : decode cX6_lead 63 = .ok (.iload_n 2, 1) := by decide +kernel
theorem dX6_lead_64 : decode cX6_lead 64 = .ok (.iconst 4, 1) := by decide +kernel
theorem dX6_lead_65 : decode cX6_lead 65 = .ok (.aload_n 0, 1) := by decide +kernel
theorem dX6_lead_66 : decode cX6_lead 66 = .ok (.iload_n 2, 1) := by decide +kernel
theorem dX6_lead_67 : decode cX6_lead 67 = .ok (.iconst 4, 1) := by decide +kernel
theorem dX6_lead_68 : decode cX6_lead 68 = .ok (.invokevirtual 41, 3) := by decide +kernel
theorem dX6_lead_71 : decode cX6_lead 71 = .ok (.iconst 1, 1) := by decide +kernel
theorem dX6_lead_72 : decode cX6_lead 72 = .ok (.iadd, 1) := by decide +kernel
theorem dX6_lead_73 : decode cX6_lead 73 = .ok (.invokevirtual 110, 3) := by decide +kernel
theorem dX6_lead_76 : decode cX6_lead 76 = .ok (.aload_n 0, 1) := by decide +kernel
theorem dX6_lead_77 : decode cX6_lead 77 = .ok (.iload_n 2, 1) := by decide +kernel
theorem dX6_lead_78 : decode cX6_lead 78 = .ok (.iload_n 1, 1) := by decide +kernel
theorem dX6_lead_79 : decode cX6_lead 79 = .ok (.invokevirtual 90, 3) := by decide +kernel
theorem dX6_lead_82 : decode cX6_lead 82 = .ok (.ireturn, 1) := by decide +kernel
theorem dX6_release_0 : decode cX6_release 0 = .ok (.aload_n 0, 1) := by decide +kernel
theorem dX6_release_1 : decode cX6_release 1 = .ok (.iload_n 1, 1) := by decide +kernel
theorem dX6_release_2 : decode cX6_release 2 = .ok (.invokevirtual 52, 3) := by decide +kernel
theorem dX6_release_5 : decode cX6_release 5 = .ok (.ifCond .ne 11, 3) := by decide +kernel
theorem dX6_release_8 : decode cX6_release 8 = .ok (.aload_n 0, 1) := by decide +kernel
theorem dX6_release_9 : decode cX6_release 9 = .ok (.iload_n 2, 1) := by decide +kernel
theorem dX6_release_10 : decode cX6_release 10 = .ok (.invokevirtual 114, 3) := by decide +kernel
theorem dX6_release_13 : decode cX6_release 13 = .ok (.ifCond .eq 5, 3) := by decide +kernel
theorem dX6_release_16 : decode cX6_release 16 = .ok (.iconst (-1), 1) := by decide +kernel
theorem dX6_release_17 : decode cX6_release 17 = .ok (.ireturn, 1) := by decide +kernel
theorem dX6_release_18 : decode cX6_release 18 = .ok (.aload_n 0, 1) := by decide +kernel
theorem dX6_release_19 : decode cX6_release 19 = .ok (.iload_n 2, 1) := by decide +kernel
theorem dX6_release_20 : decode cX6_release 20 = .ok (.invokevirtual 117, 3) := by decide +kernel
theorem dX6_release_23 : decode cX6_release 23 = .ok (.ifCond .ne 6, 3) := by decide +kernel
theorem dX6_release_26 : decode cX6_release 26 = .ok (.bipush (-4), 2) := by decide +kernel
theorem dX6_release_28 : decode cX6_release 28 = .ok (.ireturn, 1) := by decide +kernel
theorem dX6_release_29 : decode cX6_release 29 = .ok (.aload_n 0, 1) := by decide +kernel
theorem dX6_release_30 : decode cX6_release 30 = .ok (.iload_n 1, 1) := by decide +kernel
theorem dX6_release_31 : decode cX6_release 31 = .ok (.iload_n 2, 1) := by decide +kernel
theorem dX6_release_32 : decode cX6_release 32 = .ok (.invokevirtual 128, 3) := by decide +kernel
theorem dX6_release_35 : decode cX6_release 35 = .ok (.ifCond .ne 6, 3) := by decide +kernel
theorem dX6_release_38 : decode cX6_release 38 = .ok (.bipush (-5), 2) := by decide +kernel
theorem dX6_release_40 : decode cX6_release 40 = .ok (.ireturn, 1) := by decide +kernel
theorem dX6_release_41 : decode cX6_release 41 = .ok (.aload_n 0, 1) := by decide +kernel
theorem dX6_release_42 : decode cX6_release 42 = .ok (.invokevirtual 49, 3) := by decide +kernel
theorem dX6_release_45 : decode cX6_release 45 = .ok (.iconst 0, 1) := by decide +kernel
theorem dX6_release_46 : decode cX6_release 46 = .ok (.istore_n 3, 1) := by decide +kernel
theorem dX6_release_47 : decode cX6_release 47 = .ok (.iconst 0, 1) := by decide +kernel
theorem dX6_release_48 : decode cX6_release 48 = .ok (.istore 4, 2) := by decide +kernel
theorem dX6_release_50 : decode cX6_release 50 = .ok (.iload 4, 2) := by decide +kernel
theorem dX6_release_52 : decode cX6_release 52 = .ok (.aload_n 0, 1) := by decide +kernel
theorem dX6_release_53 : decode cX6_release 53 = .ok (.iload_n 2, 1) := by decide +kernel
theorem dX6_release_54 : decode cX6_release 54 = .ok (.iconst 4, 1) := by decide +kernel
theorem dX6_release_55 : decode cX6_release 55 = .ok (.invokevirtual 41, 3) := by decide +kernel
theorem dX6_release_58 : decode cX6_release 58 = .ok (.if_icmp .ge 39, 3) := by decide +kernel
theorem dX6_release_61 : decode cX6_release 61 = .ok (.aload_n 0, 1) := by decide +kernel
theorem dX6_release_62 : decode cX6_release 62 = .ok (.iload_n 2, 1) := by decide +kernel
theorem dX6_release_63 : decode cX6_release 63 = .ok (.iload 4, 2) := by decide +kernel
theorem dX6_release_65 : decode cX6_release 65 = .ok (.invokevirtual 87, 3) := by decide +kernel
theorem dX6_release_68 : decode cX6_release 68 = .ok (.iload_n 1, 1) := by decide +kernel
theorem dX6_release_69 : decode cX6_release 69 = .ok (.if_icmp .eq 22, 3) := by decide +kernel
theorem dX6_release_72 : decode cX6_release 72 = .ok (.aload_n 0, 1) := by decide +kernel
theorem dX6_release_73 : decode cX6_release 73 = .ok (.iload_n 2, 1) := by decide +kernel
theorem dX6_release_74 : decode cX6_release 74 = .ok (.bipush 8, 2) := by decide +kernel
theorem dX6_release_76 : decode cX6_release 76 = .ok (.iload_n 3, 1) := by decide +kernel
theorem dX6_release_77 : decode cX6_release 77 = .ok (.iadd, 1) := by decide +kernel
theorem dX6_release_78 : decode cX6_release 78 = .ok (.aload_n 0, 1) := by decide +kernel
theorem dX6_release_79 : decode cX6_release 79 = .ok (.iload_n 2, 1) := by decide +kernel
theorem dX6_release_80 : decode cX6_release 80 = .ok (.iload 4, 2) := by decide +kernel
theorem dX6_release_82 : decode cX6_release 82 = .ok (.invokevirtual 87, 3) := by decide +kernel
theorem dX6_release_85 : decode cX6_release 85 = .ok (.invokevirtual 110, 3) := by decide +kernel
theorem dX6_release_88 : decode cX6_release 88 = .ok (.iinc 3 1, 3) := by decide +kernel
theorem dX6_release_91 : decode cX6_release 91 = .ok (.iinc 4 1, 3) := by decide +kernel
theorem dX6_release_94 : decode cX6_release 94 = .ok (.goto (-44), 3) := by decide +kernel
theorem dX6_release_97 : decode cX6_release 97 = .ok (.aload_n 0, 1) := by decide +kernel
theorem dX6_release_98 : decode cX6_release 98 = .ok (.iload_n 2, 1) := by decide +kernel
theorem dX6_release_99 : decode cX6_release 99 = .ok (.iconst 4, 1) := by decide +kernel
theorem dX6_release_100 : decode cX6_release 100 = .ok (.iload_n 3, 1) := by decide +kernel
theorem dX6_release_101 : decode cX6_release 101 = .ok (.invokevirtual 110, 3) := by decide +kernel
theorem dX6_release_104 : decode cX6_release 104 = .ok (.aload_n 0, 1) := by decide +kernel
theorem dX6_release_105 : decode cX6_release 105 = .ok (.iload_n 2, 1) := by decide +kernel
theorem dX6_release_106 : decode cX6_release 106 = .ok (.invokevirtual 105, 3) := by decide +kernel
theorem dX6_release_109 : decode cX6_release 109 = .ok (.ireturn, 1) := by decide +kernel
theorem dX6_mayMerge_0 : decode cX6_mayMerge 0 = .ok (.aload_n 0, 1) := by decide +kernel
theorem dX6_mayMerge_1 : decode cX6_mayMerge 1 = .ok (.iload_n 1, 1) := by decide +kernel
theorem dX6_mayMerge_2 : decode cX6_mayMerge 2 = .ok (.invokevirtual 117, 3) := by decide +kernel
theorem dX6_mayMerge_5 : decode cX6_mayMerge 5 = .ok (.ifCond .eq 30, 3) := by decide +kernel
theorem dX6_mayMerge_8 : decode cX6_mayMerge 8 = .ok (.aload_n 0, 1) := by decide +kernel
theorem dX6_mayMerge_9 : decode cX6_mayMerge 9 = .ok (.iload_n 2, 1) := by decide +kernel
theorem dX6_mayMerge_10 : decode cX6_mayMerge 10 = .ok (.invokevirtual 117, 3) := by decide +kernel
theorem dX6_mayMerge_13 : decode cX6_mayMerge 13 = .ok (.ifCond .eq 22, 3) := by decide +kernel
theorem dX6_mayMerge_16 : decode cX6_mayMerge 16 = .ok (.aload_n 0, 1) := by decide +kernel
theorem dX6_mayMerge_17 : decode cX6_mayMerge 17 = .ok (.iload_n 1, 1) := by decide +kernel
theorem dX6_mayMerge_18 : decode cX6_mayMerge 18 = .ok (.iconst 0, 1) := by decide +kernel
theorem dX6_mayMerge_19 : decode cX6_mayMerge 19 = .ok (.invokevirtual 41, 3) := by decide +kernel
theorem dX6_mayMerge_22 : decode cX6_mayMerge 22 = .ok (.aload_n 0, 1) := by decide +kernel
theorem dX6_mayMerge_23 : decode cX6_mayMerge 23 = .ok (.iload_n 2, 1) := by decide +kernel
theorem dX6_mayMerge_24 : decode cX6_mayMerge 24 = .ok (.iconst 0, 1) := by decide +kernel
theorem dX6_mayMerge_25 : decode cX6_mayMerge 25 = .ok (.invokevirtual 41, 3) := by decide +kernel
theorem dX6_mayMerge_28 : decode cX6_mayMerge 28 = .ok (.if_icmp .ne 7, 3) := by decide +kernel
theorem dX6_mayMerge_31 : decode cX6_mayMerge 31 = .ok (.iconst 1, 1) := by decide +kernel
theorem dX6_mayMerge_32 : decode cX6_mayMerge 32 = .ok (.goto 4, 3) := by decide +kernel
theorem dX6_mayMerge_35 : decode cX6_mayMerge 35 = .ok (.iconst 0, 1) := by decide +kernel
theorem dX6_mayMerge_36 : decode cX6_mayMerge 36 = .ok (.istore_n 3, 1) := by decide +kernel
theorem dX6_mayMerge_37 : decode cX6_mayMerge 37 = .ok (.aload_n 0, 1) := by decide +kernel
theorem dX6_mayMerge_38 : decode cX6_mayMerge 38 = .ok (.iload_n 2, 1) := by decide +kernel
theorem dX6_mayMerge_39 : decode cX6_mayMerge 39 = .ok (.iconst 2, 1) := by decide +kernel
theorem dX6_mayMerge_40 : decode cX6_mayMerge 40 = .ok (.invokevirtual 41, 3) := by decide +kernel
theorem dX6_mayMerge_43 : decode cX6_mayMerge 43 = .ok (.aload_n 0, 1) := by decide +kernel
theorem dX6_mayMerge_44 : decode cX6_mayMerge 44 = .ok (.iload_n 1, 1) := by decide +kernel
theorem dX6_mayMerge_45 : decode cX6_mayMerge 45 = .ok (.iconst 2, 1) := by decide +kernel
theorem dX6_mayMerge_46 : decode cX6_mayMerge 46 = .ok (.invokevirtual 41, 3) := by decide +kernel
theorem dX6_mayMerge_49 : decode cX6_mayMerge 49 = .ok (.iconst (-1), 1) := by decide +kernel
theorem dX6_mayMerge_50 : decode cX6_mayMerge 50 = .ok (.ixor, 1) := by decide +kernel
theorem dX6_mayMerge_51 : decode cX6_mayMerge 51 = .ok (.iand, 1) := by decide +kernel
theorem dX6_mayMerge_52 : decode cX6_mayMerge 52 = .ok (.ifCond .ne 7, 3) := by decide +kernel
theorem dX6_mayMerge_55 : decode cX6_mayMerge 55 = .ok (.iconst 1, 1) := by decide +kernel
theorem dX6_mayMerge_56 : decode cX6_mayMerge 56 = .ok (.goto 4, 3) := by decide +kernel
theorem dX6_mayMerge_59 : decode cX6_mayMerge 59 = .ok (.iconst 0, 1) := by decide +kernel
theorem dX6_mayMerge_60 : decode cX6_mayMerge 60 = .ok (.istore 4, 2) := by decide +kernel
theorem dX6_mayMerge_62 : decode cX6_mayMerge 62 = .ok (.iload_n 3, 1) := by decide +kernel
theorem dX6_mayMerge_63 : decode cX6_mayMerge 63 = .ok (.ifCond .eq 52, 3) := by decide +kernel
theorem dX6_mayMerge_66 : decode cX6_mayMerge 66 = .ok (.iload 4, 2) := by decide +kernel
theorem dX6_mayMerge_68 : decode cX6_mayMerge 68 = .ok (.ifCond .eq 47, 3) := by decide +kernel
theorem dX6_mayMerge_71 : decode cX6_mayMerge 71 = .ok (.aload_n 0, 1) := by decide +kernel
theorem dX6_mayMerge_72 : decode cX6_mayMerge 72 = .ok (.getfield 19, 3) := by decide +kernel
theorem dX6_mayMerge_75 : decode cX6_mayMerge 75 = .ok (.bipush 7, 2) := by decide +kernel
theorem dX6_mayMerge_77 : decode cX6_mayMerge 77 = .ok (.iload_n 2, 1) := by decide +kernel
theorem dX6_mayMerge_78 : decode cX6_mayMerge 78 = .ok (.iadd, 1) := by decide +kernel
theorem dX6_mayMerge_79 : decode cX6_mayMerge 79 = .ok (.daload, 1) := by decide +kernel
theorem dX6_mayMerge_80 : decode cX6_mayMerge 80 = .ok (.aload_n 0, 1) := by decide +kernel
theorem dX6_mayMerge_81 : decode cX6_mayMerge 81 = .ok (.getfield 19, 3) := by decide +kernel
theorem dX6_mayMerge_84 : decode cX6_mayMerge 84 = .ok (.bipush 7, 2) := by decide +kernel
theorem dX6_mayMerge_86 : decode cX6_mayMerge 86 = .ok (.iload_n 1, 1) := by decide +kernel
theorem dX6_mayMerge_87 : decode cX6_mayMerge 87 = .ok (.iadd, 1) := by decide +kernel
theorem dX6_mayMerge_88 : decode cX6_mayMerge 88 = .ok (.daload, 1) := by decide +kernel
theorem dX6_mayMerge_89 : decode cX6_mayMerge 89 = .ok (.dcmp .g, 1) := by decide +kernel
theorem dX6_mayMerge_90 : decode cX6_mayMerge 90 = .ok (.ifCond .gt 25, 3) := by decide +kernel
theorem dX6_mayMerge_93 : decode cX6_mayMerge 93 = .ok (.aload_n 0, 1) := by decide +kernel
theorem dX6_mayMerge_94 : decode cX6_mayMerge 94 = .ok (.iload_n 1, 1) := by decide +kernel
theorem dX6_mayMerge_95 : decode cX6_mayMerge 95 = .ok (.iconst 3, 1) := by decide +kernel
theorem dX6_mayMerge_96 : decode cX6_mayMerge 96 = .ok (.invokevirtual 41, 3) := by decide +kernel
theorem dX6_mayMerge_99 : decode cX6_mayMerge 99 = .ok (.aload_n 0, 1) := by decide +kernel
theorem dX6_mayMerge_100 : decode cX6_mayMerge 100 = .ok (.iload_n 2, 1) := by decide +kernel
theorem dX6_mayMerge_101 : decode cX6_mayMerge 101 = .ok (.iconst 3, 1) := by decide +kernel
theorem dX6_mayMerge_102 : decode cX6_mayMerge 102 = .ok (.invokevirtual 41, 3) := by decide +kernel
theorem dX6_mayMerge_105 : decode cX6_mayMerge 105 = .ok (.iadd, 1) := by decide +kernel
theorem dX6_mayMerge_106 : decode cX6_mayMerge 106 = .ok (.bipush 12, 2) := by decide +kernel
theorem dX6_mayMerge_108 : decode cX6_mayMerge 108 = .ok (.if_icmp .gt 7, 3) := by decide +kernel
theorem dX6_mayMerge_111 : decode cX6_mayMerge 111 = .ok (.iconst 1, 1) := by decide +kernel
theorem dX6_mayMerge_112 : decode cX6_mayMerge 112 = .ok (.goto 4, 3) := by decide +kernel
theorem dX6_mayMerge_115 : decode cX6_mayMerge 115 = .ok (.iconst 0, 1) := by decide +kernel
theorem dX6_mayMerge_116 : decode cX6_mayMerge 116 = .ok (.ireturn, 1) := by decide +kernel
theorem dX6_merge_0 : decode cX6_merge 0 = .ok (.aload_n 0, 1) := by decide +kernel
theorem dX6_merge_1 : decode cX6_merge 1 = .ok (.iload_n 1, 1) := by decide +kernel
theorem dX6_merge_2 : decode cX6_merge 2 = .ok (.invokevirtual 114, 3) := by decide +kernel
theorem dX6_merge_5 : decode cX6_merge 5 = .ok (.ifCond .ne 11, 3) := by decide +kernel
theorem dX6_merge_8 : decode cX6_merge 8 = .ok (.aload_n 0, 1) := by decide +kernel
theorem dX6_merge_9 : decode cX6_merge 9 = .ok (.iload_n 2, 1) := by decide +kernel
theorem dX6_merge_10 : decode cX6_merge 10 = .ok (.invokevirtual 114, 3) := by decide +kernel
theorem dX6_merge_13 : decode cX6_merge 13 = .ok (.ifCond .eq 5, 3) := by decide +kernel
theorem dX6_merge_16 : decode cX6_merge 16 = .ok (.iconst (-1), 1) := by decide +kernel
theorem dX6_merge_17 : decode cX6_merge 17 = .ok (.ireturn, 1) := by decide +kernel
theorem dX6_merge_18 : decode cX6_merge 18 = .ok (.iload_n 1, 1) := by decide +kernel
theorem dX6_merge_19 : decode cX6_merge 19 = .ok (.iload_n 2, 1) := by decide +kernel
theorem dX6_merge_20 : decode cX6_merge 20 = .ok (.if_icmp .ne 6, 3) := by decide +kernel
theorem dX6_merge_23 : decode cX6_merge 23 = .ok (.bipush (-2), 2) := by decide +kernel
theorem dX6_merge_25 : decode cX6_merge 25 = .ok (.ireturn, 1) := by decide +kernel
theorem dX6_merge_26 : decode cX6_merge 26 = .ok (.aload_n 0, 1) := by decide +kernel
theorem dX6_merge_27 : decode cX6_merge 27 = .ok (.iload_n 1, 1) := by decide +kernel
theorem dX6_merge_28 : decode cX6_merge 28 = .ok (.iload_n 2, 1) := by decide +kernel
theorem dX6_merge_29 : decode cX6_merge 29 = .ok (.invokevirtual 137, 3) := by decide +kernel
theorem dX6_merge_32 : decode cX6_merge 32 = .ok (.ifCond .ne 6, 3) := by decide +kernel
theorem dX6_merge_35 : decode cX6_merge 35 = .ok (.bipush (-4), 2) := by decide +kernel
theorem dX6_merge_37 : decode cX6_merge 37 = .ok (.ireturn, 1) := by decide +kernel
theorem dX6_merge_38 : decode cX6_merge 38 = .ok (.aload_n 0, 1) := by decide +kernel
theorem dX6_merge_39 : decode cX6_merge 39 = .ok (.invokevirtual 49, 3) := by decide +kernel
theorem dX6_merge_42 : decode cX6_merge 42 = .ok (.aload_n 0, 1) := by decide +kernel
theorem dX6_merge_43 : decode cX6_merge 43 = .ok (.iload_n 1, 1) := by decide +kernel
theorem dX6_merge_44 : decode cX6_merge 44 = .ok (.iconst 5, 1) := by decide +kernel
theorem dX6_merge_45 : decode cX6_merge 45 = .ok (.invokevirtual 41, 3) := by decide +kernel
theorem dX6_merge_48 : decode cX6_merge 48 = .ok (.aload_n 0, 1) := by decide +kernel
theorem dX6_merge_49 : decode cX6_merge 49 = .ok (.iload_n 1, 1) := by decide +kernel
theorem dX6_merge_50 : decode cX6_merge 50 = .ok (.iconst 3, 1) := by decide +kernel
theorem dX6_merge_51 : decode cX6_merge 51 = .ok (.invokevirtual 41, 3) := by decide +kernel
theorem dX6_merge_54 : decode cX6_merge 54 = .ok (.aload_n 0, 1) := by decide +kernel
theorem dX6_merge_55 : decode cX6_merge 55 = .ok (.iload_n 2, 1) := by decide +kernel
theorem dX6_merge_56 : decode cX6_merge 56 = .ok (.iconst 1, 1) := by decide +kernel
theorem dX6_merge_57 : decode cX6_merge 57 = .ok (.invokevirtual 41, 3) := by decide +kernel
theorem dX6_merge_60 : decode cX6_merge 60 = .ok (.imul, 1) := by decide +kernel
theorem dX6_merge_61 : decode cX6_merge 61 = .ok (.isub, 1) := by decide +kernel
theorem dX6_merge_62 : decode cX6_merge 62 = .ok (.istore_n 3, 1) := by decide +kernel
theorem dX6_merge_63 : decode cX6_merge 63 = .ok (.iload_n 3, 1) := by decide +kernel
theorem dX6_merge_64 : decode cX6_merge 64 = .ok (.ifCond .le 7, 3) := by decide +kernel
theorem dX6_merge_67 : decode cX6_merge 67 = .ok (.iload_n 3, 1) := by decide +kernel
theorem dX6_merge_68 : decode cX6_merge 68 = .ok (.goto 4, 3) := by decide +kernel
theorem dX6_merge_71 : decode cX6_merge 71 = .ok (.iconst 0, 1) := by decide +kernel
theorem dX6_merge_72 : decode cX6_merge 72 = .ok (.istore 4, 2) := by decide +kernel
theorem dX6_merge_74 : decode cX6_merge 74 = .ok (.aload_n 0, 1) := by decide +kernel
theorem dX6_merge_75 : decode cX6_merge 75 = .ok (.iload_n 1, 1) := by decide +kernel
theorem dX6_merge_76 : decode cX6_merge 76 = .ok (.iload 4, 2) := by decide +kernel
theorem dX6_merge_78 : decode cX6_merge 78 = .ok (.invokevirtual 124, 3) := by decide +kernel
theorem dX6_merge_81 : decode cX6_merge 81 = .ok (.aload_n 0, 1) := by decide +kernel
theorem dX6_merge_82 : decode cX6_merge 82 = .ok (.iload_n 2, 1) := by decide +kernel
theorem dX6_merge_83 : decode cX6_merge 83 = .ok (.iconst 3, 1) := by decide +kernel
theorem dX6_merge_84 : decode cX6_merge 84 = .ok (.aload_n 0, 1) := by decide +kernel
theorem dX6_merge_85 : decode cX6_merge 85 = .ok (.iload_n 2, 1) := by decide +kernel
theorem dX6_merge_86 : decode cX6_merge 86 = .ok (.iconst 3, 1) := by decide +kernel
theorem dX6_merge_87 : decode cX6_merge 87 = .ok (.invokevirtual 41, 3) := by decide +kernel
theorem dX6_merge_90 : decode cX6_merge 90 = .ok (.aload_n 0, 1) := by decide +kernel
theorem dX6_merge_91 : decode cX6_merge 91 = .ok (.iload_n 1, 1) := by decide +kernel
theorem dX6_merge_92 : decode cX6_merge 92 = .ok (.iconst 3, 1) := by decide +kernel
theorem dX6_merge_93 : decode cX6_merge 93 = .ok (.invokevirtual 41, 3) := by decide +kernel
theorem dX6_merge_96 : decode cX6_merge 96 = .ok (.iadd, 1) := by decide +kernel
theorem dX6_merge_97 : decode cX6_merge 97 = .ok (.invokevirtual 110, 3) := by decide +kernel
theorem dX6_merge_100 : decode cX6_merge 100 = .ok (.aload_n 0, 1) := by decide +kernel
theorem dX6_merge_101 : decode cX6_merge 101 = .ok (.iload_n 2, 1) := by decide +kernel
theorem dX6_merge_102 : decode cX6_merge 102 = .ok (.iconst 5, 1) := by decide +kernel
theorem dX6_merge_103 : decode cX6_merge 103 = .ok (.aload_n 0, 1) := by decide +kernel
theorem dX6_merge_104 : decode cX6_merge 104 = .ok (.iload_n 2, 1) := by decide +kernel
theorem dX6_merge_105 : decode cX6_merge 105 = .ok (.iconst 5, 1) := by decide +kernel
theorem dX6_merge_106 : decode cX6_merge 106 = .ok (.invokevirtual 41, 3) := by decide +kernel
theorem dX6_merge_109 : decode cX6_merge 109 = .ok (.aload_n 0, 1) := by decide +kernel
theorem dX6_merge_110 : decode cX6_merge 110 = .ok (.iload_n 1, 1) := by decide +kernel
theorem dX6_merge_111 : decode cX6_merge 111 = .ok (.iconst 5, 1) := by decide +kernel
theorem dX6_merge_112 : decode cX6_merge 112 = .ok (.invokevirtual 41, 3) := by decide +kernel
theorem dX6_merge_115 : decode cX6_merge 115 = .ok (.iadd, 1) := by decide +kernel
theorem dX6_merge_116 : decode cX6_merge 116 = .ok (.invokevirtual 110, 3) := by decide +kernel
theorem dX6_merge_119 : decode cX6_merge 119 = .ok (.iconst 0, 1) := by decide +kernel
theorem dX6_merge_120 : decode cX6_merge 120 = .ok (.istore 5, 2) := by decide +kernel
theorem dX6_merge_122 : decode cX6_merge 122 = .ok (.iload 5, 2) := by decide +kernel
theorem dX6_merge_124 : decode cX6_merge 124 = .ok (.aload_n 0, 1) := by decide +kernel
theorem dX6_merge_125 : decode cX6_merge 125 = .ok (.iload_n 1, 1) := by decide +kernel
theorem dX6_merge_126 : decode cX6_merge 126 = .ok (.iconst 4, 1) := by decide +kernel
theorem dX6_merge_127 : decode cX6_merge 127 = .ok (.invokevirtual 41, 3) := by decide +kernel
theorem dX6_merge_130 : decode cX6_merge 130 = .ok (.if_icmp .ge 54, 3) := by decide +kernel
theorem dX6_merge_133 : decode cX6_merge 133 = .ok (.aload_n 0, 1) := by decide +kernel
theorem dX6_merge_134 : decode cX6_merge 134 = .ok (.iload_n 2, 1) := by decide +kernel
theorem dX6_merge_135 : decode cX6_merge 135 = .ok (.iconst 4, 1) := by decide +kernel
theorem dX6_merge_136 : decode cX6_merge 136 = .ok (.invokevirtual 41, 3) := by decide +kernel
theorem dX6_merge_139 : decode cX6_merge 139 = .ok (.iconst 4, 1) := by decide +kernel
theorem dX6_merge_140 : decode cX6_merge 140 = .ok (.if_icmp .ge 44, 3) := by decide +kernel
theorem dX6_merge_143 : decode cX6_merge 143 = .ok (.aload_n 0, 1) := by decide +kernel
theorem dX6_merge_144 : decode cX6_merge 144 = .ok (.iload_n 2, 1) := by decide +kernel
theorem dX6_merge_145 : decode cX6_merge 145 = .ok (.bipush 8, 2) := by decide +kernel
theorem dX6_merge_147 : decode cX6_merge 147 = .ok (.aload_n 0, 1) := by decide +kernel
theorem dX6_merge_148 : decode cX6_merge 148 = .ok (.iload_n 2, 1) := by decide +kernel
theorem dX6_merge_149 : decode cX6_merge 149 = .ok (.iconst 4, 1) := by decide +kernel
theorem dX6_merge_150 : decode cX6_merge 150 = .ok (.invokevirtual 41, 3) := by decide +kernel
theorem dX6_merge_153 : decode cX6_merge 153 = .ok (.iadd, 1) := by decide +kernel
theorem dX6_merge_154 : decode cX6_merge 154 = .ok (.aload_n 0, 1) := by decide +kernel
theorem dX6_merge_155 : decode cX6_merge 155 = .ok (.iload_n 1, 1) := by decide +kernel
theorem dX6_merge_156 : decode cX6_merge 156 = .ok (.iload 5, 2) := by decide +kernel
theorem dX6_merge_158 : decode cX6_merge 158 = .ok (.invokevirtual 87, 3) := by decide +kernel
theorem dX6_merge_161 : decode cX6_merge 161 = .ok (.invokevirtual 110, 3) := by decide +kernel
theorem dX6_merge_164 : decode cX6_merge 164 = .ok (.aload_n 0, 1) := by decide +kernel
theorem dX6_merge_165 : decode cX6_merge 165 = .ok (.iload_n 2, 1) := by decide +kernel
theorem dX6_merge_166 : decode cX6_merge 166 = .ok (.iconst 4, 1) := by decide +kernel
theorem dX6_merge_167 : decode cX6_merge 167 = .ok (.aload_n 0, 1) := by decide +kernel
theorem dX6_merge_168 : decode cX6_merge 168 = .ok (.iload_n 2, 1) := by decide +kernel
theorem dX6_merge_169 : decode cX6_merge 169 = .ok (.iconst 4, 1) := by decide +kernel
theorem dX6_merge_170 : decode cX6_merge 170 = .ok (.invokevirtual 41, 3) := by decide +kernel
theorem dX6_merge_173 : decode cX6_merge 173 = .ok (.iconst 1, 1) := by decide +kernel
theorem dX6_merge_174 : decode cX6_merge 174 = .ok (.iadd, 1) := by decide +kernel
theorem dX6_merge_175 : decode cX6_merge 175 = .ok (.invokevirtual 110, 3) := by decide +kernel
theorem dX6_merge_178 : decode cX6_merge 178 = .ok (.iinc 5 1, 3) := by decide +kernel
theorem dX6_merge_181 : decode cX6_merge 181 = .ok (.goto (-59), 3) := by decide +kernel
theorem dX6_merge_184 : decode cX6_merge 184 = .ok (.aload_n 0, 1) := by decide +kernel
theorem dX6_merge_185 : decode cX6_merge 185 = .ok (.iload_n 1, 1) := by decide +kernel
theorem dX6_merge_186 : decode cX6_merge 186 = .ok (.iconst 3, 1) := by decide +kernel
theorem dX6_merge_187 : decode cX6_merge 187 = .ok (.iconst 0, 1) := by decide +kernel
theorem dX6_merge_188 : decode cX6_merge 188 = .ok (.invokevirtual 110, 3) := by decide +kernel
theorem dX6_merge_191 : decode cX6_merge 191 = .ok (.aload_n 0, 1) := by decide +kernel
theorem dX6_merge_192 : decode cX6_merge 192 = .ok (.iload_n 1, 1) := by decide +kernel
theorem dX6_merge_193 : decode cX6_merge 193 = .ok (.iconst 5, 1) := by decide +kernel
theorem dX6_merge_194 : decode cX6_merge 194 = .ok (.iconst 0, 1) := by decide +kernel
theorem dX6_merge_195 : decode cX6_merge 195 = .ok (.invokevirtual 110, 3) := by decide +kernel
theorem dX6_merge_198 : decode cX6_merge 198 = .ok (.aload_n 0, 1) := by decide +kernel
theorem dX6_merge_199 : decode cX6_merge 199 = .ok (.iload_n 1, 1) := by decide +kernel
theorem dX6_merge_200 : decode cX6_merge 200 = .ok (.iconst 4, 1) := by decide +kernel
theorem dX6_merge_201 : decode cX6_merge 201 = .ok (.iconst 0, 1) := by decide +kernel
theorem dX6_merge_202 : decode cX6_merge 202 = .ok (.invokevirtual 110, 3) := by decide +kernel
theorem dX6_merge_205 : decode cX6_merge 205 = .ok (.aload_n 0, 1) := by decide +kernel
theorem dX6_merge_206 : decode cX6_merge 206 = .ok (.iload_n 1, 1) := by decide +kernel
theorem dX6_merge_207 : decode cX6_merge 207 = .ok (.bipush 6, 2) := by decide +kernel
theorem dX6_merge_209 : decode cX6_merge 209 = .ok (.iconst 3, 1) := by decide +kernel
theorem dX6_merge_210 : decode cX6_merge 210 = .ok (.invokevirtual 110, 3) := by decide +kernel
theorem dX6_merge_213 : decode cX6_merge 213 = .ok (.iload 4, 2) := by decide +kernel
theorem dX6_merge_215 : decode cX6_merge 215 = .ok (.ireturn, 1) := by decide +kernel
theorem dX6_cancels_0 : decode cX6_cancels 0 = .ok (.aload_n 0, 1) := by decide +kernel
theorem dX6_cancels_1 : decode cX6_cancels 1 = .ok (.iload_n 1, 1) := by decide +kernel
theorem dX6_cancels_2 : decode cX6_cancels 2 = .ok (.iconst 5, 1) := by decide +kernel
theorem dX6_cancels_3 : decode cX6_cancels 3 = .ok (.invokevirtual 41, 3) := by decide +kernel
theorem dX6_cancels_6 : decode cX6_cancels 6 = .ok (.istore_n 3, 1) := by decide +kernel
theorem dX6_cancels_7 : decode cX6_cancels 7 = .ok (.aload_n 0, 1) := by decide +kernel
theorem dX6_cancels_8 : decode cX6_cancels 8 = .ok (.iload_n 1, 1) := by decide +kernel
theorem dX6_cancels_9 : decode cX6_cancels 9 = .ok (.iload_n 3, 1) := by decide +kernel
theorem dX6_cancels_10 : decode cX6_cancels 10 = .ok (.invokevirtual 124, 3) := by decide +kernel
theorem dX6_cancels_13 : decode cX6_cancels 13 = .ok (.aload_n 0, 1) := by decide +kernel
theorem dX6_cancels_14 : decode cX6_cancels 14 = .ok (.iload_n 1, 1) := by decide +kernel
theorem dX6_cancels_15 : decode cX6_cancels 15 = .ok (.bipush 6, 2) := by decide +kernel
theorem dX6_cancels_17 : decode cX6_cancels 17 = .ok (.iconst 2, 1) := by decide +kernel
theorem dX6_cancels_18 : decode cX6_cancels 18 = .ok (.invokevirtual 110, 3) := by decide +kernel
theorem dX6_cancels_21 : decode cX6_cancels 21 = .ok (.aload_n 0, 1) := by decide +kernel
theorem dX6_cancels_22 : decode cX6_cancels 22 = .ok (.iload_n 1, 1) := by decide +kernel
theorem dX6_cancels_23 : decode cX6_cancels 23 = .ok (.bipush 7, 2) := by decide +kernel
theorem dX6_cancels_25 : decode cX6_cancels 25 = .ok (.iload_n 2, 1) := by decide +kernel
theorem dX6_cancels_26 : decode cX6_cancels 26 = .ok (.invokevirtual 110, 3) := by decide +kernel
theorem dX6_cancels_29 : decode cX6_cancels 29 = .ok (.iload_n 3, 1) := by decide +kernel
theorem dX6_cancels_30 : decode cX6_cancels 30 = .ok (.ireturn, 1) := by decide +kernel
theorem dX6_cancel_0 : decode cX6_cancel 0 = .ok (.aload_n 0, 1) := by decide +kernel
theorem dX6_cancel_1 : decode cX6_cancel 1 = .ok (.iload_n 1, 1) := by decide +kernel
theorem dX6_cancel_2 : decode cX6_cancel 2 = .ok (.invokevirtual 114, 3) := by decide +kernel
theorem dX6_cancel_5 : decode cX6_cancel 5 = .ok (.ifCond .eq 5, 3) := by decide +kernel
theorem dX6_cancel_8 : decode cX6_cancel 8 = .ok (.iconst (-1), 1) := by decide +kernel
theorem dX6_cancel_9 : decode cX6_cancel 9 = .ok (.ireturn, 1) := by decide +kernel
theorem dX6_cancel_10 : decode cX6_cancel 10 = .ok (.aload_n 0, 1) := by decide +kernel
theorem dX6_cancel_11 : decode cX6_cancel 11 = .ok (.iload_n 1, 1) := by decide +kernel
theorem dX6_cancel_12 : decode cX6_cancel 12 = .ok (.invokevirtual 117, 3) := by decide +kernel
theorem dX6_cancel_15 : decode cX6_cancel 15 = .ok (.ifCond .ne 6, 3) := by decide +kernel
theorem dX6_cancel_18 : decode cX6_cancel 18 = .ok (.bipush (-4), 2) := by decide +kernel
theorem dX6_cancel_20 : decode cX6_cancel 20 = .ok (.ireturn, 1) := by decide +kernel
theorem dX6_cancel_21 : decode cX6_cancel 21 = .ok (.aload_n 0, 1) := by decide +kernel
theorem dX6_cancel_22 : decode cX6_cancel 22 = .ok (.invokevirtual 49, 3) := by decide +kernel
theorem dX6_cancel_25 : decode cX6_cancel 25 = .ok (.aload_n 0, 1) := by decide +kernel
theorem dX6_cancel_26 : decode cX6_cancel 26 = .ok (.iload_n 1, 1) := by decide +kernel
theorem dX6_cancel_27 : decode cX6_cancel 27 = .ok (.iconst 4, 1) := by decide +kernel
theorem dX6_cancel_28 : decode cX6_cancel 28 = .ok (.invokevirtual 140, 3) := by decide +kernel
theorem dX6_cancel_31 : decode cX6_cancel 31 = .ok (.ireturn, 1) := by decide +kernel
theorem dX6_goes_0 : decode cX6_goes 0 = .ok (.aload_n 0, 1) := by decide +kernel
theorem dX6_goes_1 : decode cX6_goes 1 = .ok (.iload_n 1, 1) := by decide +kernel
theorem dX6_goes_2 : decode cX6_goes 2 = .ok (.bipush 6, 2) := by decide +kernel
theorem dX6_goes_4 : decode cX6_goes 4 = .ok (.iconst 1, 1) := by decide +kernel
theorem dX6_goes_5 : decode cX6_goes 5 = .ok (.invokevirtual 110, 3) := by decide +kernel
theorem dX6_goes_8 : decode cX6_goes 8 = .ok (.iconst 0, 1) := by decide +kernel
theorem dX6_goes_9 : decode cX6_goes 9 = .ok (.istore_n 2, 1) := by decide +kernel
theorem dX6_goes_10 : decode cX6_goes 10 = .ok (.iload_n 2, 1) := by decide +kernel
theorem dX6_goes_11 : decode cX6_goes 11 = .ok (.aload_n 0, 1) := by decide +kernel
theorem dX6_goes_12 : decode cX6_goes 12 = .ok (.iload_n 1, 1) := by decide +kernel
theorem dX6_goes_13 : decode cX6_goes 13 = .ok (.iconst 4, 1) := by decide +kernel
theorem dX6_goes_14 : decode cX6_goes 14 = .ok (.invokevirtual 41, 3) := by decide +kernel
theorem dX6_goes_17 : decode cX6_goes 17 = .ok (.if_icmp .ge 50, 3) := by decide +kernel
theorem dX6_goes_20 : decode cX6_goes 20 = .ok (.bipush 8, 2) := by decide +kernel
theorem dX6_goes_22 : decode cX6_goes 22 = .ok (.iconst 4, 1) := by decide +kernel
theorem dX6_goes_23 : decode cX6_goes 23 = .ok (.aload_n 0, 1) := by decide +kernel
theorem dX6_goes_24 : decode cX6_goes 24 = .ok (.iload_n 1, 1) := by decide +kernel
theorem dX6_goes_25 : decode cX6_goes 25 = .ok (.iload_n 2, 1) := by decide +kernel
theorem dX6_goes_26 : decode cX6_goes 26 = .ok (.invokevirtual 87, 3) := by decide +kernel
theorem dX6_goes_29 : decode cX6_goes 29 = .ok (.imul, 1) := by decide +kernel
theorem dX6_goes_30 : decode cX6_goes 30 = .ok (.iadd, 1) := by decide +kernel
theorem dX6_goes_31 : decode cX6_goes 31 = .ok (.istore_n 3, 1) := by decide +kernel
theorem dX6_goes_32 : decode cX6_goes 32 = .ok (.aload_n 0, 1) := by decide +kernel
theorem dX6_goes_33 : decode cX6_goes 33 = .ok (.getfield 7, 3) := by decide +kernel
theorem dX6_goes_36 : decode cX6_goes 36 = .ok (.iload_n 3, 1) := by decide +kernel
theorem dX6_goes_37 : decode cX6_goes 37 = .ok (.iconst 2, 1) := by decide +kernel
theorem dX6_goes_38 : decode cX6_goes 38 = .ok (.iadd, 1) := by decide +kernel
theorem dX6_goes_39 : decode cX6_goes 39 = .ok (.dup2, 1) := by decide +kernel
theorem dX6_goes_40 : decode cX6_goes 40 = .ok (.iaload, 1) := by decide +kernel
theorem dX6_goes_41 : decode cX6_goes 41 = .ok (.iconst 1, 1) := by decide +kernel
theorem dX6_goes_42 : decode cX6_goes 42 = .ok (.iadd, 1) := by decide +kernel
theorem dX6_goes_43 : decode cX6_goes 43 = .ok (.iastore, 1) := by decide +kernel
theorem dX6_goes_44 : decode cX6_goes 44 = .ok (.aload_n 0, 1) := by decide +kernel
theorem dX6_goes_45 : decode cX6_goes 45 = .ok (.getfield 7, 3) := by decide +kernel
theorem dX6_goes_48 : decode cX6_goes 48 = .ok (.iload_n 3, 1) := by decide +kernel
theorem dX6_goes_49 : decode cX6_goes 49 = .ok (.iconst 3, 1) := by decide +kernel
theorem dX6_goes_50 : decode cX6_goes 50 = .ok (.iadd, 1) := by decide +kernel
theorem dX6_goes_51 : decode cX6_goes 51 = .ok (.dup2, 1) := by decide +kernel
theorem dX6_goes_52 : decode cX6_goes 52 = .ok (.iaload, 1) := by decide +kernel
theorem dX6_goes_53 : decode cX6_goes 53 = .ok (.aload_n 0, 1) := by decide +kernel
theorem dX6_goes_54 : decode cX6_goes 54 = .ok (.iload_n 1, 1) := by decide +kernel
theorem dX6_goes_55 : decode cX6_goes 55 = .ok (.iload_n 2, 1) := by decide +kernel
theorem dX6_goes_56 : decode cX6_goes 56 = .ok (.invokevirtual 93, 3) := by decide +kernel
theorem dX6_goes_59 : decode cX6_goes 59 = .ok (.iadd, 1) := by decide +kernel
theorem dX6_goes_60 : decode cX6_goes 60 = .ok (.iastore, 1) := by decide +kernel
theorem dX6_goes_61 : decode cX6_goes 61 = .ok (.iinc 2 1, 3) := by decide +kernel
theorem dX6_goes_64 : decode cX6_goes 64 = .ok (.goto (-54), 3) := by decide +kernel
theorem dX6_goes_67 : decode cX6_goes 67 = .ok (.return_, 1) := by decide +kernel
theorem dX6_changed_0 : decode cX6_changed 0 = .ok (.aload_n 0, 1) := by decide +kernel
theorem dX6_changed_1 : decode cX6_changed 1 = .ok (.getfield 19, 3) := by decide +kernel
theorem dX6_changed_4 : decode cX6_changed 4 = .ok (.iconst 0, 1) := by decide +kernel
theorem dX6_changed_5 : decode cX6_changed 5 = .ok (.daload, 1) := by decide +kernel
theorem dX6_changed_6 : decode cX6_changed 6 = .ok (.dstore_n 3, 1) := by decide +kernel
theorem dX6_changed_7 : decode cX6_changed 7 = .ok (.dload_n 3, 1) := by decide +kernel
theorem dX6_changed_8 : decode cX6_changed 8 = .ok (.dconst 0, 1) := by decide +kernel
theorem dX6_changed_9 : decode cX6_changed 9 = .ok (.dcmp .l, 1) := by decide +kernel
theorem dX6_changed_10 : decode cX6_changed 10 = .ok (.ifCond .le 26, 3) := by decide +kernel
theorem dX6_changed_13 : decode cX6_changed 13 = .ok (.dload_n 1, 1) := by decide +kernel
theorem dX6_changed_14 : decode cX6_changed 14 = .ok (.ldc2_w 143, 3) := by decide +kernel
theorem dX6_changed_17 : decode cX6_changed 17 = .ok (.dload_n 3, 1) := by decide +kernel
theorem dX6_changed_18 : decode cX6_changed 18 = .ok (.dmul, 1) := by decide +kernel
theorem dX6_changed_19 : decode cX6_changed 19 = .ok (.dsub, 1) := by decide +kernel
theorem dX6_changed_20 : decode cX6_changed 20 = .ok (.dstore 5, 2) := by decide +kernel
theorem dX6_changed_22 : decode cX6_changed 22 = .ok (.dload 5, 2) := by decide +kernel
theorem dX6_changed_24 : decode cX6_changed 24 = .ok (.dconst 0, 1) := by decide +kernel
theorem dX6_changed_25 : decode cX6_changed 25 = .ok (.dcmp .g, 1) := by decide +kernel
theorem dX6_changed_26 : decode cX6_changed 26 = .ok (.ifCond .ge 7, 3) := by decide +kernel
theorem dX6_changed_29 : decode cX6_changed 29 = .ok (.dconst 0, 1) := by decide +kernel
theorem dX6_changed_30 : decode cX6_changed 30 = .ok (.goto 5, 3) := by decide +kernel
theorem dX6_changed_33 : decode cX6_changed 33 = .ok (.dload 5, 2) := by decide +kernel
theorem dX6_changed_35 : decode cX6_changed 35 = .ok (.dreturn, 1) := by decide +kernel
theorem dX6_changed_36 : decode cX6_changed 36 = .ok (.dload_n 3, 1) := by decide +kernel
theorem dX6_changed_37 : decode cX6_changed 37 = .ok (.dconst 0, 1) := by decide +kernel
theorem dX6_changed_38 : decode cX6_changed 38 = .ok (.dcmp .g, 1) := by decide +kernel
theorem dX6_changed_39 : decode cX6_changed 39 = .ok (.ifCond .ge 30, 3) := by decide +kernel
theorem dX6_changed_42 : decode cX6_changed 42 = .ok (.dload_n 1, 1) := by decide +kernel
theorem dX6_changed_43 : decode cX6_changed 43 = .ok (.ldc2_w 145, 3) := by decide +kernel
theorem dX6_changed_46 : decode cX6_changed 46 = .ok (.dload_n 3, 1) := by decide +kernel
theorem dX6_changed_47 : decode cX6_changed 47 = .ok (.dmul, 1) := by decide +kernel
theorem dX6_changed_48 : decode cX6_changed 48 = .ok (.dsub, 1) := by decide +kernel
theorem dX6_changed_49 : decode cX6_changed 49 = .ok (.dstore 5, 2) := by decide +kernel
theorem dX6_changed_51 : decode cX6_changed 51 = .ok (.dload 5, 2) := by decide +kernel
theorem dX6_changed_53 : decode cX6_changed 53 = .ok (.ldc2_w 67, 3) := by decide +kernel
theorem dX6_changed_56 : decode cX6_changed 56 = .ok (.dcmp .l, 1) := by decide +kernel
theorem dX6_changed_57 : decode cX6_changed 57 = .ok (.ifCond .le 9, 3) := by decide +kernel
theorem dX6_changed_60 : decode cX6_changed 60 = .ok (.ldc2_w 67, 3) := by decide +kernel
theorem dX6_changed_63 : decode cX6_changed 63 = .ok (.goto 5, 3) := by decide +kernel
theorem dX6_changed_66 : decode cX6_changed 66 = .ok (.dload 5, 2) := by decide +kernel
theorem dX6_changed_68 : decode cX6_changed 68 = .ok (.dreturn, 1) := by decide +kernel
theorem dX6_changed_69 : decode cX6_changed 69 = .ok (.dload_n 1, 1) := by decide +kernel
theorem dX6_changed_70 : decode cX6_changed 70 = .ok (.dreturn, 1) := by decide +kernel
theorem dX6_passes_0 : decode cX6_passes 0 = .ok (.iconst 0, 1) := by decide +kernel
theorem dX6_passes_1 : decode cX6_passes 1 = .ok (.istore_n 1, 1) := by decide +kernel
theorem dX6_passes_2 : decode cX6_passes 2 = .ok (.iconst 0, 1) := by decide +kernel
theorem dX6_passes_3 : decode cX6_passes 3 = .ok (.istore_n 2, 1) := by decide +kernel
theorem dX6_passes_4 : decode cX6_passes 4 = .ok (.iload_n 2, 1) := by decide +kernel
theorem dX6_passes_5 : decode cX6_passes 5 = .ok (.aload_n 0, 1) := by decide +kernel
theorem dX6_passes_6 : decode cX6_passes 6 = .ok (.getfield 7, 3) := by decide +kernel
theorem dX6_passes_9 : decode cX6_passes 9 = .ok (.iconst 3, 1) := by decide +kernel
theorem dX6_passes_10 : decode cX6_passes 10 = .ok (.iaload, 1) := by decide +kernel
theorem dX6_passes_11 : decode cX6_passes 11 = .ok (.if_icmp .ge 64, 3) := by decide +kernel
theorem dX6_passes_14 : decode cX6_passes 14 = .ok (.aload_n 0, 1) := by decide +kernel
theorem dX6_passes_15 : decode cX6_passes 15 = .ok (.iload_n 2, 1) := by decide +kernel
theorem dX6_passes_16 : decode cX6_passes 16 = .ok (.invokevirtual 117, 3) := by decide +kernel
theorem dX6_passes_19 : decode cX6_passes 19 = .ok (.ifCond .eq 50, 3) := by decide +kernel
theorem dX6_passes_22 : decode cX6_passes 22 = .ok (.aload_n 0, 1) := by decide +kernel
theorem dX6_passes_23 : decode cX6_passes 23 = .ok (.iload_n 2, 1) := by decide +kernel
theorem dX6_passes_24 : decode cX6_passes 24 = .ok (.iconst 0, 1) := by decide +kernel
theorem dX6_passes_25 : decode cX6_passes 25 = .ok (.invokevirtual 41, 3) := by decide +kernel
theorem dX6_passes_28 : decode cX6_passes 28 = .ok (.aload_n 0, 1) := by decide +kernel
theorem dX6_passes_29 : decode cX6_passes 29 = .ok (.getfield 7, 3) := by decide +kernel
theorem dX6_passes_32 : decode cX6_passes 32 = .ok (.iconst 0, 1) := by decide +kernel
theorem dX6_passes_33 : decode cX6_passes 33 = .ok (.iaload, 1) := by decide +kernel
theorem dX6_passes_34 : decode cX6_passes 34 = .ok (.if_icmp .eq 6, 3) := by decide +kernel
theorem dX6_passes_37 : decode cX6_passes 37 = .ok (.goto 32, 3) := by decide +kernel
theorem dX6_passes_40 : decode cX6_passes 40 = .ok (.aload_n 0, 1) := by decide +kernel
theorem dX6_passes_41 : decode cX6_passes 41 = .ok (.iload_n 2, 1) := by decide +kernel
theorem dX6_passes_42 : decode cX6_passes 42 = .ok (.invokevirtual 147, 3) := by decide +kernel
theorem dX6_passes_45 : decode cX6_passes 45 = .ok (.istore_n 3, 1) := by decide +kernel
theorem dX6_passes_46 : decode cX6_passes 46 = .ok (.iload_n 3, 1) := by decide +kernel
theorem dX6_passes_47 : decode cX6_passes 47 = .ok (.ifCond .le 14, 3) := by decide +kernel
theorem dX6_passes_50 : decode cX6_passes 50 = .ok (.aload_n 0, 1) := by decide +kernel
theorem dX6_passes_51 : decode cX6_passes 51 = .ok (.iload_n 2, 1) := by decide +kernel
theorem dX6_passes_52 : decode cX6_passes 52 = .ok (.iload_n 3, 1) := by decide +kernel
theorem dX6_passes_53 : decode cX6_passes 53 = .ok (.invokevirtual 140, 3) := by decide +kernel
theorem dX6_passes_56 : decode cX6_passes 56 = .ok (.istore 4, 2) := by decide +kernel
theorem dX6_passes_58 : decode cX6_passes 58 = .ok (.goto 11, 3) := by decide +kernel
theorem dX6_passes_61 : decode cX6_passes 61 = .ok (.aload_n 0, 1) := by decide +kernel
theorem dX6_passes_62 : decode cX6_passes 62 = .ok (.iload_n 2, 1) := by decide +kernel
theorem dX6_passes_63 : decode cX6_passes 63 = .ok (.invokevirtual 150, 3) := by decide +kernel
theorem dX6_passes_66 : decode cX6_passes 66 = .ok (.iinc 1 1, 3) := by decide +kernel
theorem dX6_passes_69 : decode cX6_passes 69 = .ok (.iinc 2 1, 3) := by decide +kernel
theorem dX6_passes_72 : decode cX6_passes 72 = .ok (.goto (-68), 3) := by decide +kernel
theorem dX6_passes_75 : decode cX6_passes 75 = .ok (.iconst 0, 1) := by decide +kernel
theorem dX6_passes_76 : decode cX6_passes 76 = .ok (.istore_n 2, 1) := by decide +kernel
theorem dX6_passes_77 : decode cX6_passes 77 = .ok (.iload_n 2, 1) := by decide +kernel
theorem dX6_passes_78 : decode cX6_passes 78 = .ok (.aload_n 0, 1) := by decide +kernel
theorem dX6_passes_79 : decode cX6_passes 79 = .ok (.getfield 7, 3) := by decide +kernel
theorem dX6_passes_82 : decode cX6_passes 82 = .ok (.iconst 2, 1) := by decide +kernel
theorem dX6_passes_83 : decode cX6_passes 83 = .ok (.iaload, 1) := by decide +kernel
theorem dX6_passes_84 : decode cX6_passes 84 = .ok (.if_icmp .ge 29, 3) := by decide +kernel
theorem dX6_passes_87 : decode cX6_passes 87 = .ok (.aload_n 0, 1) := by decide +kernel
theorem dX6_passes_88 : decode cX6_passes 88 = .ok (.getfield 19, 3) := by decide +kernel
theorem dX6_passes_91 : decode cX6_passes 91 = .ok (.iconst 1, 1) := by decide +kernel
theorem dX6_passes_92 : decode cX6_passes 92 = .ok (.iload_n 2, 1) := by decide +kernel
theorem dX6_passes_93 : decode cX6_passes 93 = .ok (.iadd, 1) := by decide +kernel
theorem dX6_passes_94 : decode cX6_passes 94 = .ok (.aload_n 0, 1) := by decide +kernel
theorem dX6_passes_95 : decode cX6_passes 95 = .ok (.aload_n 0, 1) := by decide +kernel
theorem dX6_passes_96 : decode cX6_passes 96 = .ok (.getfield 19, 3) := by decide +kernel
theorem dX6_passes_99 : decode cX6_passes 99 = .ok (.iconst 1, 1) := by decide +kernel
theorem dX6_passes_100 : decode cX6_passes 100 = .ok (.iload_n 2, 1) := by decide +kernel
theorem dX6_passes_101 : decode cX6_passes 101 = .ok (.iadd, 1) := by decide +kernel
theorem dX6_passes_102 : decode cX6_passes 102 = .ok (.daload, 1) := by decide +kernel
theorem dX6_passes_103 : decode cX6_passes 103 = .ok (.invokevirtual 154, 3) := by decide +kernel
theorem dX6_passes_106 : decode cX6_passes 106 = .ok (.dastore, 1) := by decide +kernel
theorem dX6_passes_107 : decode cX6_passes 107 = .ok (.iinc 2 1, 3) := by decide +kernel
theorem dX6_passes_110 : decode cX6_passes 110 = .ok (.goto (-33), 3) := by decide +kernel
theorem dX6_passes_113 : decode cX6_passes 113 = .ok (.aload_n 0, 1) := by decide +kernel
theorem dX6_passes_114 : decode cX6_passes 114 = .ok (.getfield 7, 3) := by decide +kernel
theorem dX6_passes_117 : decode cX6_passes 117 = .ok (.iconst 0, 1) := by decide +kernel
theorem dX6_passes_118 : decode cX6_passes 118 = .ok (.dup2, 1) := by decide +kernel
theorem dX6_passes_119 : decode cX6_passes 119 = .ok (.iaload, 1) := by decide +kernel
theorem dX6_passes_120 : decode cX6_passes 120 = .ok (.iconst 1, 1) := by decide +kernel
theorem dX6_passes_121 : decode cX6_passes 121 = .ok (.iadd, 1) := by decide +kernel
theorem dX6_passes_122 : decode cX6_passes 122 = .ok (.iastore, 1) := by decide +kernel
theorem dX6_passes_123 : decode cX6_passes 123 = .ok (.iload_n 1, 1) := by decide +kernel
theorem dX6_passes_124 : decode cX6_passes 124 = .ok (.ireturn, 1) := by decide +kernel
theorem dX6_pass_0 : decode cX6_pass 0 = .ok (.iload_n 1, 1) := by decide +kernel
theorem dX6_pass_1 : decode cX6_pass 1 = .ok (.iconst 1, 1) := by decide +kernel
theorem dX6_pass_2 : decode cX6_pass 2 = .ok (.bipush 30, 2) := by decide +kernel
theorem dX6_pass_4 : decode cX6_pass 4 = .ok (.invokestatic 37, 3) := by decide +kernel
theorem dX6_pass_7 : decode cX6_pass 7 = .ok (.ifCond .ne 6, 3) := by decide +kernel
theorem dX6_pass_10 : decode cX6_pass 10 = .ok (.bipush (-2), 2) := by decide +kernel
theorem dX6_pass_12 : decode cX6_pass 12 = .ok (.ireturn, 1) := by decide +kernel
theorem dX6_pass_13 : decode cX6_pass 13 = .ok (.aload_n 0, 1) := by decide +kernel
theorem dX6_pass_14 : decode cX6_pass 14 = .ok (.getfield 7, 3) := by decide +kernel
theorem dX6_pass_17 : decode cX6_pass 17 = .ok (.iconst 0, 1) := by decide +kernel
theorem dX6_pass_18 : decode cX6_pass 18 = .ok (.iaload, 1) := by decide +kernel
theorem dX6_pass_19 : decode cX6_pass 19 = .ok (.iload_n 1, 1) := by decide +kernel
theorem dX6_pass_20 : decode cX6_pass 20 = .ok (.iadd, 1) := by decide +kernel
theorem dX6_pass_21 : decode cX6_pass 21 = .ok (.sipush 1000, 3) := by decide +kernel
theorem dX6_pass_24 : decode cX6_pass 24 = .ok (.if_icmp .le 6, 3) := by decide +kernel
theorem dX6_pass_27 : decode cX6_pass 27 = .ok (.bipush (-4), 2) := by decide +kernel
theorem dX6_pass_29 : decode cX6_pass 29 = .ok (.ireturn, 1) := by decide +kernel
theorem dX6_pass_30 : decode cX6_pass 30 = .ok (.aload_n 0, 1) := by decide +kernel
theorem dX6_pass_31 : decode cX6_pass 31 = .ok (.invokevirtual 49, 3) := by decide +kernel
theorem dX6_pass_34 : decode cX6_pass 34 = .ok (.iconst 0, 1) := by decide +kernel
theorem dX6_pass_35 : decode cX6_pass 35 = .ok (.istore_n 2, 1) := by decide +kernel
theorem dX6_pass_36 : decode cX6_pass 36 = .ok (.iconst 0, 1) := by decide +kernel
theorem dX6_pass_37 : decode cX6_pass 37 = .ok (.istore_n 3, 1) := by decide +kernel
theorem dX6_pass_38 : decode cX6_pass 38 = .ok (.iload_n 3, 1) := by decide +kernel
theorem dX6_pass_39 : decode cX6_pass 39 = .ok (.iload_n 1, 1) := by decide +kernel
theorem dX6_pass_40 : decode cX6_pass 40 = .ok (.if_icmp .ge 16, 3) := by decide +kernel
theorem dX6_pass_43 : decode cX6_pass 43 = .ok (.iload_n 2, 1) := by decide +kernel
theorem dX6_pass_44 : decode cX6_pass 44 = .ok (.aload_n 0, 1) := by decide +kernel
theorem dX6_pass_45 : decode cX6_pass 45 = .ok (.invokevirtual 158, 3) := by decide +kernel
theorem dX6_pass_48 : decode cX6_pass 48 = .ok (.iadd, 1) := by decide +kernel
theorem dX6_pass_49 : decode cX6_pass 49 = .ok (.istore_n 2, 1) := by decide +kernel
theorem dX6_pass_50 : decode cX6_pass 50 = .ok (.iinc 3 1, 3) := by decide +kernel
theorem dX6_pass_53 : decode cX6_pass 53 = .ok (.goto (-15), 3) := by decide +kernel
theorem dX6_pass_56 : decode cX6_pass 56 = .ok (.iload_n 2, 1) := by decide +kernel
theorem dX6_pass_57 : decode cX6_pass 57 = .ok (.ireturn, 1) := by decide +kernel
theorem dX6_type_0 : decode cX6_type 0 = .ok (.aload_n 0, 1) := by decide +kernel
theorem dX6_type_1 : decode cX6_type 1 = .ok (.getfield 162, 3) := by decide +kernel
theorem dX6_type_4 : decode cX6_type 4 = .ok (.bipush 40, 2) := by decide +kernel
theorem dX6_type_6 : decode cX6_type 6 = .ok (.if_icmp .ne 6, 3) := by decide +kernel
theorem dX6_type_9 : decode cX6_type 9 = .ok (.bipush (-3), 2) := by decide +kernel
theorem dX6_type_11 : decode cX6_type 11 = .ok (.ireturn, 1) := by decide +kernel
theorem dX6_type_12 : decode cX6_type 12 = .ok (.aload_n 0, 1) := by decide +kernel
theorem dX6_type_13 : decode cX6_type 13 = .ok (.getfield 29, 3) := by decide +kernel
theorem dX6_type_16 : decode cX6_type 16 = .ok (.aload_n 0, 1) := by decide +kernel
theorem dX6_type_17 : decode cX6_type 17 = .ok (.getfield 162, 3) := by decide +kernel
theorem dX6_type_20 : decode cX6_type 20 = .ok (.iload_n 1, 1) := by decide +kernel
theorem dX6_type_21 : decode cX6_type 21 = .ok (.castore, 1) := by decide +kernel
theorem dX6_type_22 : decode cX6_type 22 = .ok (.aload_n 0, 1) := by decide +kernel
theorem dX6_type_23 : decode cX6_type 23 = .ok (.dup, 1) := by decide +kernel
theorem dX6_type_24 : decode cX6_type 24 = .ok (.getfield 162, 3) := by decide +kernel
theorem dX6_type_27 : decode cX6_type 27 = .ok (.iconst 1, 1) := by decide +kernel
theorem dX6_type_28 : decode cX6_type 28 = .ok (.iadd, 1) := by decide +kernel
theorem dX6_type_29 : decode cX6_type 29 = .ok (.putfield 162, 3) := by decide +kernel
theorem dX6_type_32 : decode cX6_type 32 = .ok (.aload_n 0, 1) := by decide +kernel
theorem dX6_type_33 : decode cX6_type 33 = .ok (.getfield 162, 3) := by decide +kernel
theorem dX6_type_36 : decode cX6_type 36 = .ok (.ireturn, 1) := by decide +kernel
theorem dX6_clearText_0 : decode cX6_clearText 0 = .ok (.aload_n 0, 1) := by decide +kernel
theorem dX6_clearText_1 : decode cX6_clearText 1 = .ok (.getfield 162, 3) := by decide +kernel
theorem dX6_clearText_4 : decode cX6_clearText 4 = .ok (.istore_n 1, 1) := by decide +kernel
theorem dX6_clearText_5 : decode cX6_clearText 5 = .ok (.aload_n 0, 1) := by decide +kernel
theorem dX6_clearText_6 : decode cX6_clearText 6 = .ok (.iconst 0, 1) := by decide +kernel
theorem dX6_clearText_7 : decode cX6_clearText 7 = .ok (.putfield 162, 3) := by decide +kernel
theorem dX6_clearText_10 : decode cX6_clearText 10 = .ok (.iload_n 1, 1) := by decide +kernel
theorem dX6_clearText_11 : decode cX6_clearText 11 = .ok (.ireturn, 1) := by decide +kernel
theorem dX6_isWord_0 : decode cX6_isWord 0 = .ok (.aload_n 0, 1) := by decide +kernel
theorem dX6_isWord_1 : decode cX6_isWord 1 = .ok (.getfield 165, 3) := by decide +kernel
theorem dX6_isWord_4 : decode cX6_isWord 4 = .ok (.iload_n 1, 1) := by decide +kernel
theorem dX6_isWord_5 : decode cX6_isWord 5 = .ok (.if_icmp .ne 49, 3) := by decide +kernel
theorem dX6_isWord_8 : decode cX6_isWord 8 = .ok (.aload_n 0, 1) := by decide +kernel
theorem dX6_isWord_9 : decode cX6_isWord 9 = .ok (.getfield 29, 3) := by decide +kernel
theorem dX6_isWord_12 : decode cX6_isWord 12 = .ok (.iconst 0, 1) := by decide +kernel
theorem dX6_isWord_13 : decode cX6_isWord 13 = .ok (.caload, 1) := by decide +kernel
theorem dX6_isWord_14 : decode cX6_isWord 14 = .ok (.iload_n 2, 1) := by decide +kernel
theorem dX6_isWord_15 : decode cX6_isWord 15 = .ok (.if_icmp .ne 39, 3) := by decide +kernel
theorem dX6_isWord_18 : decode cX6_isWord 18 = .ok (.aload_n 0, 1) := by decide +kernel
theorem dX6_isWord_19 : decode cX6_isWord 19 = .ok (.getfield 29, 3) := by decide +kernel
theorem dX6_isWord_22 : decode cX6_isWord 22 = .ok (.iconst 1, 1) := by decide +kernel
theorem dX6_isWord_23 : decode cX6_isWord 23 = .ok (.caload, 1) := by decide +kernel
theorem dX6_isWord_24 : decode cX6_isWord 24 = .ok (.iload_n 3, 1) := by decide +kernel
theorem dX6_isWord_25 : decode cX6_isWord 25 = .ok (.if_icmp .ne 29, 3) := by decide +kernel
theorem dX6_isWord_28 : decode cX6_isWord 28 = .ok (.aload_n 0, 1) := by decide +kernel
theorem dX6_isWord_29 : decode cX6_isWord 29 = .ok (.getfield 29, 3) := by decide +kernel
theorem dX6_isWord_32 : decode cX6_isWord 32 = .ok (.iconst 2, 1) := by decide +kernel
theorem dX6_isWord_33 : decode cX6_isWord 33 = .ok (.caload, 1) := by decide +kernel
theorem dX6_isWord_34 : decode cX6_isWord 34 = .ok (.iload 4, 2) := by decide +kernel
theorem dX6_isWord_36 : decode cX6_isWord 36 = .ok (.if_icmp .ne 18, 3) := by decide +kernel
theorem dX6_isWord_39 : decode cX6_isWord 39 = .ok (.aload_n 0, 1) := by decide +kernel
theorem dX6_isWord_40 : decode cX6_isWord 40 = .ok (.getfield 29, 3) := by decide +kernel
theorem dX6_isWord_43 : decode cX6_isWord 43 = .ok (.iconst 3, 1) := by decide +kernel
theorem dX6_isWord_44 : decode cX6_isWord 44 = .ok (.caload, 1) := by decide +kernel
theorem dX6_isWord_45 : decode cX6_isWord 45 = .ok (.iload 5, 2) := by decide +kernel
theorem dX6_isWord_47 : decode cX6_isWord 47 = .ok (.if_icmp .ne 7, 3) := by decide +kernel
theorem dX6_isWord_50 : decode cX6_isWord 50 = .ok (.iconst 1, 1) := by decide +kernel
theorem dX6_isWord_51 : decode cX6_isWord 51 = .ok (.goto 4, 3) := by decide +kernel
theorem dX6_isWord_54 : decode cX6_isWord 54 = .ok (.iconst 0, 1) := by decide +kernel
theorem dX6_isWord_55 : decode cX6_isWord 55 = .ok (.ireturn, 1) := by decide +kernel
theorem dX6_word_0 : decode cX6_word 0 = .ok (.aload_n 0, 1) := by decide +kernel
theorem dX6_word_1 : decode cX6_word 1 = .ok (.iconst 0, 1) := by decide +kernel
theorem dX6_word_2 : decode cX6_word 2 = .ok (.putfield 165, 3) := by decide +kernel
theorem dX6_word_5 : decode cX6_word 5 = .ok (.aload_n 0, 1) := by decide +kernel
theorem dX6_word_6 : decode cX6_word 6 = .ok (.getfield 165, 3) := by decide +kernel
theorem dX6_word_9 : decode cX6_word 9 = .ok (.aload_n 0, 1) := by decide +kernel
theorem dX6_word_10 : decode cX6_word 10 = .ok (.getfield 162, 3) := by decide +kernel
theorem dX6_word_13 : decode cX6_word 13 = .ok (.if_icmp .ge 35, 3) := by decide +kernel
theorem dX6_word_16 : decode cX6_word 16 = .ok (.aload_n 0, 1) := by decide +kernel
theorem dX6_word_17 : decode cX6_word 17 = .ok (.getfield 29, 3) := by decide +kernel
theorem dX6_word_20 : decode cX6_word 20 = .ok (.aload_n 0, 1) := by decide +kernel
theorem dX6_word_21 : decode cX6_word 21 = .ok (.getfield 165, 3) := by decide +kernel
theorem dX6_word_24 : decode cX6_word 24 = .ok (.caload, 1) := by decide +kernel
theorem dX6_word_25 : decode cX6_word 25 = .ok (.bipush 97, 2) := by decide +kernel
theorem dX6_word_27 : decode cX6_word 27 = .ok (.bipush 122, 2) := by decide +kernel
theorem dX6_word_29 : decode cX6_word 29 = .ok (.invokestatic 37, 3) := by decide +kernel
theorem dX6_word_32 : decode cX6_word 32 = .ok (.ifCond .eq 16, 3) := by decide +kernel
theorem dX6_word_35 : decode cX6_word 35 = .ok (.aload_n 0, 1) := by decide +kernel
theorem dX6_word_36 : decode cX6_word 36 = .ok (.dup, 1) := by decide +kernel
theorem dX6_word_37 : decode cX6_word 37 = .ok (.getfield 165, 3) := by decide +kernel
theorem dX6_word_40 : decode cX6_word 40 = .ok (.iconst 1, 1) := by decide +kernel
theorem dX6_word_41 : decode cX6_word 41 = .ok (.iadd, 1) := by decide +kernel
theorem dX6_word_42 : decode cX6_word 42 = .ok (.putfield 165, 3) := by decide +kernel
theorem dX6_word_45 : decode cX6_word 45 = .ok (.goto (-40), 3) := by decide +kernel
theorem dX6_word_48 : decode cX6_word 48 = .ok (.aload_n 0, 1) := by decide +kernel
theorem dX6_word_49 : decode cX6_word 49 = .ok (.iconst 4, 1) := by decide +kernel
theorem dX6_word_50 : decode cX6_word 50 = .ok (.bipush 98, 2) := by decide +kernel
theorem dX6_word_52 : decode cX6_word 52 = .ok (.bipush 111, 2) := by decide +kernel
theorem dX6_word_54 : decode cX6_word 54 = .ok (.bipush 111, 2) := by decide +kernel
theorem dX6_word_56 : decode cX6_word 56 = .ok (.bipush 107, 2) := by decide +kernel
theorem dX6_word_58 : decode cX6_word 58 = .ok (.invokevirtual 168, 3) := by decide +kernel
theorem dX6_word_61 : decode cX6_word 61 = .ok (.ifCond .eq 5, 3) := by decide +kernel
theorem dX6_word_64 : decode cX6_word 64 = .ok (.iconst 0, 1) := by decide +kernel
theorem dX6_word_65 : decode cX6_word 65 = .ok (.ireturn, 1) := by decide +kernel
theorem dX6_word_66 : decode cX6_word 66 = .ok (.aload_n 0, 1) := by decide +kernel
theorem dX6_word_67 : decode cX6_word 67 = .ok (.iconst 4, 1) := by decide +kernel
theorem dX6_word_68 : decode cX6_word 68 = .ok (.bipush 108, 2) := by decide +kernel
theorem dX6_word_70 : decode cX6_word 70 = .ok (.bipush 101, 2) := by decide +kernel
theorem dX6_word_72 : decode cX6_word 72 = .ok (.bipush 97, 2) := by decide +kernel
theorem dX6_word_74 : decode cX6_word 74 = .ok (.bipush 100, 2) := by decide +kernel
theorem dX6_word_76 : decode cX6_word 76 = .ok (.invokevirtual 168, 3) := by decide +kernel
theorem dX6_word_79 : decode cX6_word 79 = .ok (.ifCond .eq 5, 3) := by decide +kernel
theorem dX6_word_82 : decode cX6_word 82 = .ok (.iconst 4, 1) := by decide +kernel
theorem dX6_word_83 : decode cX6_word 83 = .ok (.ireturn, 1) := by decide +kernel
theorem dX6_word_84 : decode cX6_word 84 = .ok (.aload_n 0, 1) := by decide +kernel
theorem dX6_word_85 : decode cX6_word 85 = .ok (.iconst 5, 1) := by decide +kernel
theorem dX6_word_86 : decode cX6_word 86 = .ok (.bipush 108, 2) := by decide +kernel
theorem dX6_word_88 : decode cX6_word 88 = .ok (.bipush 101, 2) := by decide +kernel
theorem dX6_word_90 : decode cX6_word 90 = .ok (.bipush 97, 2) := by decide +kernel
theorem dX6_word_92 : decode cX6_word 92 = .ok (.bipush 118, 2) := by decide +kernel
theorem dX6_word_94 : decode cX6_word 94 = .ok (.invokevirtual 168, 3) := by decide +kernel
theorem dX6_word_97 : decode cX6_word 97 = .ok (.ifCond .eq 16, 3) := by decide +kernel
theorem dX6_word_100 : decode cX6_word 100 = .ok (.aload_n 0, 1) := by decide +kernel
theorem dX6_word_101 : decode cX6_word 101 = .ok (.getfield 29, 3) := by decide +kernel
theorem dX6_word_104 : decode cX6_word 104 = .ok (.iconst 4, 1) := by decide +kernel
theorem dX6_word_105 : decode cX6_word 105 = .ok (.caload, 1) := by decide +kernel
theorem dX6_word_106 : decode cX6_word 106 = .ok (.bipush 101, 2) := by decide +kernel
theorem dX6_word_108 : decode cX6_word 108 = .ok (.if_icmp .ne 5, 3) := by decide +kernel
theorem dX6_word_111 : decode cX6_word 111 = .ok (.iconst 1, 1) := by decide +kernel
theorem dX6_word_112 : decode cX6_word 112 = .ok (.ireturn, 1) := by decide +kernel
theorem dX6_word_113 : decode cX6_word 113 = .ok (.aload_n 0, 1) := by decide +kernel
theorem dX6_word_114 : decode cX6_word 114 = .ok (.iconst 5, 1) := by decide +kernel
theorem dX6_word_115 : decode cX6_word 115 = .ok (.bipush 109, 2) := by decide +kernel
theorem dX6_word_117 : decode cX6_word 117 = .ok (.bipush 101, 2) := by decide +kernel
theorem dX6_word_119 : decode cX6_word 119 = .ok (.bipush 114, 2) := by decide +kernel
theorem dX6_word_121 : decode cX6_word 121 = .ok (.bipush 103, 2) := by decide +kernel
theorem dX6_word_123 : decode cX6_word 123 = .ok (.invokevirtual 168, 3) := by decide +kernel
theorem dX6_word_126 : decode cX6_word 126 = .ok (.ifCond .eq 16, 3) := by decide +kernel
theorem dX6_word_129 : decode cX6_word 129 = .ok (.aload_n 0, 1) := by decide +kernel
theorem dX6_word_130 : decode cX6_word 130 = .ok (.getfield 29, 3) := by decide +kernel
theorem dX6_word_133 : decode cX6_word 133 = .ok (.iconst 4, 1) := by decide +kernel
theorem dX6_word_134 : decode cX6_word 134 = .ok (.caload, 1) := by decide +kernel
theorem dX6_word_135 : decode cX6_word 135 = .ok (.bipush 101, 2) := by decide +kernel
theorem dX6_word_137 : decode cX6_word 137 = .ok (.if_icmp .ne 5, 3) := by decide +kernel
theorem dX6_word_140 : decode cX6_word 140 = .ok (.iconst 2, 1) := by decide +kernel
theorem dX6_word_141 : decode cX6_word 141 = .ok (.ireturn, 1) := by decide +kernel
theorem dX6_word_142 : decode cX6_word 142 = .ok (.aload_n 0, 1) := by decide +kernel
theorem dX6_word_143 : decode cX6_word 143 = .ok (.bipush 6, 2) := by decide +kernel
theorem dX6_word_145 : decode cX6_word 145 = .ok (.bipush 99, 2) := by decide +kernel
theorem dX6_word_147 : decode cX6_word 147 = .ok (.bipush 97, 2) := by decide +kernel
theorem dX6_word_149 : decode cX6_word 149 = .ok (.bipush 110, 2) := by decide +kernel
theorem dX6_word_151 : decode cX6_word 151 = .ok (.bipush 99, 2) := by decide +kernel
theorem dX6_word_153 : decode cX6_word 153 = .ok (.invokevirtual 168, 3) := by decide +kernel
theorem dX6_word_156 : decode cX6_word 156 = .ok (.ifCond .eq 29, 3) := by decide +kernel
theorem dX6_word_159 : decode cX6_word 159 = .ok (.aload_n 0, 1) := by decide +kernel
theorem dX6_word_160 : decode cX6_word 160 = .ok (.getfield 29, 3) := by decide +kernel
theorem dX6_word_163 : decode cX6_word 163 = .ok (.iconst 4, 1) := by decide +kernel
theorem dX6_word_164 : decode cX6_word 164 = .ok (.caload, 1) := by decide +kernel
theorem dX6_word_165 : decode cX6_word 165 = .ok (.bipush 101, 2) := by decide +kernel
theorem dX6_word_167 : decode cX6_word 167 = .ok (.if_icmp .ne 18, 3) := by decide +kernel
theorem dX6_word_170 : decode cX6_word 170 = .ok (.aload_n 0, 1) := by decide +kernel
theorem dX6_word_171 : decode cX6_word 171 = .ok (.getfield 29, 3) := by decide +kernel
theorem dX6_word_174 : decode cX6_word 174 = .ok (.iconst 5, 1) := by decide +kernel
theorem dX6_word_175 : decode cX6_word 175 = .ok (.caload, 1) := by decide +kernel
theorem dX6_word_176 : decode cX6_word 176 = .ok (.bipush 108, 2) := by decide +kernel
theorem dX6_word_178 : decode cX6_word 178 = .ok (.if_icmp .ne 7, 3) := by decide +kernel
theorem dX6_word_181 : decode cX6_word 181 = .ok (.iconst 3, 1) := by decide +kernel
theorem dX6_word_182 : decode cX6_word 182 = .ok (.goto 5, 3) := by decide +kernel
theorem dX6_word_185 : decode cX6_word 185 = .ok (.bipush (-5), 2) := by decide +kernel
theorem dX6_word_187 : decode cX6_word 187 = .ok (.ireturn, 1) := by decide +kernel
theorem dX6_number_0 : decode cX6_number 0 = .ok (.aload_n 0, 1) := by decide +kernel
theorem dX6_number_1 : decode cX6_number 1 = .ok (.getfield 165, 3) := by decide +kernel
theorem dX6_number_4 : decode cX6_number 4 = .ok (.aload_n 0, 1) := by decide +kernel
theorem dX6_number_5 : decode cX6_number 5 = .ok (.getfield 162, 3) := by decide +kernel
theorem dX6_number_8 : decode cX6_number 8 = .ok (.if_icmp .ge 17, 3) := by decide +kernel
theorem dX6_number_11 : decode cX6_number 11 = .ok (.aload_n 0, 1) := by decide +kernel
theorem dX6_number_12 : decode cX6_number 12 = .ok (.getfield 29, 3) := by decide +kernel
theorem dX6_number_15 : decode cX6_number 15 = .ok (.aload_n 0, 1) := by decide +kernel
theorem dX6_number_16 : decode cX6_number 16 = .ok (.getfield 165, 3) := by decide +kernel
theorem dX6_number_19 : decode cX6_number 19 = .ok (.caload, 1) := by decide +kernel
theorem dX6_number_20 : decode cX6_number 20 = .ok (.bipush 32, 2) := by decide +kernel
theorem dX6_number_22 : decode cX6_number 22 = .ok (.if_icmp .eq 6, 3) := by decide +kernel
theorem dX6_number_25 : decode cX6_number 25 = .ok (.bipush (-5), 2) := by decide +kernel
theorem dX6_number_27 : decode cX6_number 27 = .ok (.ireturn, 1) := by decide +kernel
theorem dX6_number_28 : decode cX6_number 28 = .ok (.aload_n 0, 1) := by decide +kernel
theorem dX6_number_29 : decode cX6_number 29 = .ok (.dup, 1) := by decide +kernel
theorem dX6_number_30 : decode cX6_number 30 = .ok (.getfield 165, 3) := by decide +kernel
theorem dX6_number_33 : decode cX6_number 33 = .ok (.iconst 1, 1) := by decide +kernel
theorem dX6_number_34 : decode cX6_number 34 = .ok (.iadd, 1) := by decide +kernel
theorem dX6_number_35 : decode cX6_number 35 = .ok (.putfield 165, 3) := by decide +kernel
theorem dX6_number_38 : decode cX6_number 38 = .ok (.aload_n 0, 1) := by decide +kernel
theorem dX6_number_39 : decode cX6_number 39 = .ok (.getfield 165, 3) := by decide +kernel
theorem dX6_number_42 : decode cX6_number 42 = .ok (.aload_n 0, 1) := by decide +kernel
theorem dX6_number_43 : decode cX6_number 43 = .ok (.getfield 162, 3) := by decide +kernel
theorem dX6_number_46 : decode cX6_number 46 = .ok (.if_icmp .ge 22, 3) := by decide +kernel
theorem dX6_number_49 : decode cX6_number 49 = .ok (.aload_n 0, 1) := by decide +kernel
theorem dX6_number_50 : decode cX6_number 50 = .ok (.getfield 29, 3) := by decide +kernel
theorem dX6_number_53 : decode cX6_number 53 = .ok (.aload_n 0, 1) := by decide +kernel
theorem dX6_number_54 : decode cX6_number 54 = .ok (.getfield 165, 3) := by decide +kernel
theorem dX6_number_57 : decode cX6_number 57 = .ok (.caload, 1) := by decide +kernel
theorem dX6_number_58 : decode cX6_number 58 = .ok (.bipush 48, 2) := by decide +kernel
theorem dX6_number_60 : decode cX6_number 60 = .ok (.bipush 57, 2) := by decide +kernel
theorem dX6_number_62 : decode cX6_number 62 = .ok (.invokestatic 37, 3) := by decide +kernel
theorem dX6_number_65 : decode cX6_number 65 = .ok (.ifCond .ne 6, 3) := by decide +kernel
theorem dX6_number_68 : decode cX6_number 68 = .ok (.bipush (-5), 2) := by decide +kernel
theorem dX6_number_70 : decode cX6_number 70 = .ok (.ireturn, 1) := by decide +kernel
theorem dX6_number_71 : decode cX6_number 71 = .ok (.aload_n 0, 1) := by decide +kernel
theorem dX6_number_72 : decode cX6_number 72 = .ok (.getfield 29, 3) := by decide +kernel
theorem dX6_number_75 : decode cX6_number 75 = .ok (.aload_n 0, 1) := by decide +kernel
theorem dX6_number_76 : decode cX6_number 76 = .ok (.getfield 165, 3) := by decide +kernel
theorem dX6_number_79 : decode cX6_number 79 = .ok (.caload, 1) := by decide +kernel
theorem dX6_number_80 : decode cX6_number 80 = .ok (.bipush 48, 2) := by decide +kernel
theorem dX6_number_82 : decode cX6_number 82 = .ok (.isub, 1) := by decide +kernel
theorem dX6_number_83 : decode cX6_number 83 = .ok (.istore_n 1, 1) := by decide +kernel
theorem dX6_number_84 : decode cX6_number 84 = .ok (.aload_n 0, 1) := by decide +kernel
theorem dX6_number_85 : decode cX6_number 85 = .ok (.dup, 1) := by decide +kernel
theorem dX6_number_86 : decode cX6_number 86 = .ok (.getfield 165, 3) := by decide +kernel
theorem dX6_number_89 : decode cX6_number 89 = .ok (.iconst 1, 1) := by decide +kernel
theorem dX6_number_90 : decode cX6_number 90 = .ok (.iadd, 1) := by decide +kernel
theorem dX6_number_91 : decode cX6_number 91 = .ok (.putfield 165, 3) := by decide +kernel
theorem dX6_number_94 : decode cX6_number 94 = .ok (.iload_n 1, 1) := by decide +kernel
theorem dX6_number_95 : decode cX6_number 95 = .ok (.ifCond .le 61, 3) := by decide +kernel
theorem dX6_number_98 : decode cX6_number 98 = .ok (.aload_n 0, 1) := by decide +kernel
theorem dX6_number_99 : decode cX6_number 99 = .ok (.getfield 165, 3) := by decide +kernel
theorem dX6_number_102 : decode cX6_number 102 = .ok (.aload_n 0, 1) := by decide +kernel
theorem dX6_number_103 : decode cX6_number 103 = .ok (.getfield 162, 3) := by decide +kernel
theorem dX6_number_106 : decode cX6_number 106 = .ok (.if_icmp .ge 50, 3) := by decide +kernel
theorem dX6_number_109 : decode cX6_number 109 = .ok (.aload_n 0, 1) := by decide +kernel
theorem dX6_number_110 : decode cX6_number 110 = .ok (.getfield 29, 3) := by decide +kernel
theorem dX6_number_113 : decode cX6_number 113 = .ok (.aload_n 0, 1) := by decide +kernel
theorem dX6_number_114 : decode cX6_number 114 = .ok (.getfield 165, 3) := by decide +kernel
theorem dX6_number_117 : decode cX6_number 117 = .ok (.caload, 1) := by decide +kernel
theorem dX6_number_118 : decode cX6_number 118 = .ok (.bipush 48, 2) := by decide +kernel
theorem dX6_number_120 : decode cX6_number 120 = .ok (.bipush 57, 2) := by decide +kernel
theorem dX6_number_122 : decode cX6_number 122 = .ok (.invokestatic 37, 3) := by decide +kernel
theorem dX6_number_125 : decode cX6_number 125 = .ok (.ifCond .eq 31, 3) := by decide +kernel
theorem dX6_number_128 : decode cX6_number 128 = .ok (.bipush 10, 2) := by decide +kernel
theorem dX6_number_130 : decode cX6_number 130 = .ok (.iload_n 1, 1) := by decide +kernel
theorem dX6_number_131 : decode cX6_number 131 = .ok (.imul, 1) := by decide +kernel
theorem dX6_number_132 : decode cX6_number 132 = .ok (.aload_n 0, 1) := by decide +kernel
theorem dX6_number_133 : decode cX6_number 133 = .ok (.getfield 29, 3) := by decide +kernel
theorem dX6_number_136 : decode cX6_number 136 = .ok (.aload_n 0, 1) := by decide +kernel
theorem dX6_number_137 : decode cX6_number 137 = .ok (.getfield 165, 3) := by decide +kernel
theorem dX6_number_140 : decode cX6_number 140 = .ok (.caload, 1) := by decide +kernel
theorem dX6_number_141 : decode cX6_number 141 = .ok (.iadd, 1) := by decide +kernel
theorem dX6_number_142 : decode cX6_number 142 = .ok (.bipush 48, 2) := by decide +kernel
theorem dX6_number_144 : decode cX6_number 144 = .ok (.isub, 1) := by decide +kernel
theorem dX6_number_145 : decode cX6_number 145 = .ok (.istore_n 1, 1) := by decide +kernel
theorem dX6_number_146 : decode cX6_number 146 = .ok (.aload_n 0, 1) := by decide +kernel
theorem dX6_number_147 : decode cX6_number 147 = .ok (.dup, 1) := by decide +kernel
theorem dX6_number_148 : decode cX6_number 148 = .ok (.getfield 165, 3) := by decide +kernel
theorem dX6_number_151 : decode cX6_number 151 = .ok (.iconst 1, 1) := by decide +kernel
theorem dX6_number_152 : decode cX6_number 152 = .ok (.iadd, 1) := by decide +kernel
theorem dX6_number_153 : decode cX6_number 153 = .ok (.putfield 165, 3) := by decide +kernel
theorem dX6_number_156 : decode cX6_number 156 = .ok (.iload_n 1, 1) := by decide +kernel
theorem dX6_number_157 : decode cX6_number 157 = .ok (.ireturn, 1) := by decide +kernel
theorem dX6_perform_0 : decode cX6_perform 0 = .ok (.aload_n 0, 1) := by decide +kernel
theorem dX6_perform_1 : decode cX6_perform 1 = .ok (.invokevirtual 172, 3) := by decide +kernel
theorem dX6_perform_4 : decode cX6_perform 4 = .ok (.istore_n 1, 1) := by decide +kernel
theorem dX6_perform_5 : decode cX6_perform 5 = .ok (.iload_n 1, 1) := by decide +kernel
theorem dX6_perform_6 : decode cX6_perform 6 = .ok (.bipush (-5), 2) := by decide +kernel
theorem dX6_perform_8 : decode cX6_perform 8 = .ok (.if_icmp .ne 6, 3) := by decide +kernel
theorem dX6_perform_11 : decode cX6_perform 11 = .ok (.bipush (-100), 2) := by decide +kernel
theorem dX6_perform_13 : decode cX6_perform 13 = .ok (.ireturn, 1) := by decide +kernel
theorem dX6_perform_14 : decode cX6_perform 14 = .ok (.aload_n 0, 1) := by decide +kernel
theorem dX6_perform_15 : decode cX6_perform 15 = .ok (.aload_n 0, 1) := by decide +kernel
theorem dX6_perform_16 : decode cX6_perform 16 = .ok (.invokevirtual 175, 3) := by decide +kernel
theorem dX6_perform_19 : decode cX6_perform 19 = .ok (.putfield 178, 3) := by decide +kernel
theorem dX6_perform_22 : decode cX6_perform 22 = .ok (.aload_n 0, 1) := by decide +kernel
theorem dX6_perform_23 : decode cX6_perform 23 = .ok (.getfield 178, 3) := by decide +kernel
theorem dX6_perform_26 : decode cX6_perform 26 = .ok (.bipush (-5), 2) := by decide +kernel
theorem dX6_perform_28 : decode cX6_perform 28 = .ok (.if_icmp .ne 11, 3) := by decide +kernel
theorem dX6_perform_31 : decode cX6_perform 31 = .ok (.bipush (-100), 2) := by decide +kernel
theorem dX6_perform_33 : decode cX6_perform 33 = .ok (.aload_n 0, 1) := by decide +kernel
theorem dX6_perform_34 : decode cX6_perform 34 = .ok (.getfield 165, 3) := by decide +kernel
theorem dX6_perform_37 : decode cX6_perform 37 = .ok (.isub, 1) := by decide +kernel
theorem dX6_perform_38 : decode cX6_perform 38 = .ok (.ireturn, 1) := by decide +kernel
theorem dX6_perform_39 : decode cX6_perform 39 = .ok (.aload_n 0, 1) := by decide +kernel
theorem dX6_perform_40 : decode cX6_perform 40 = .ok (.iload_n 1, 1) := by decide +kernel
theorem dX6_perform_41 : decode cX6_perform 41 = .ok (.iconst 3, 1) := by decide +kernel
theorem dX6_perform_42 : decode cX6_perform 42 = .ok (.if_icmp .ne 7, 3) := by decide +kernel
theorem dX6_perform_45 : decode cX6_perform 45 = .ok (.iconst 0, 1) := by decide +kernel
theorem dX6_perform_46 : decode cX6_perform 46 = .ok (.goto 7, 3) := by decide +kernel
theorem dX6_perform_49 : decode cX6_perform 49 = .ok (.aload_n 0, 1) := by decide +kernel
theorem dX6_perform_50 : decode cX6_perform 50 = .ok (.invokevirtual 175, 3) := by decide +kernel
theorem dX6_perform_53 : decode cX6_perform 53 = .ok (.putfield 181, 3) := by decide +kernel
theorem dX6_perform_56 : decode cX6_perform 56 = .ok (.aload_n 0, 1) := by decide +kernel
theorem dX6_perform_57 : decode cX6_perform 57 = .ok (.getfield 181, 3) := by decide +kernel
theorem dX6_perform_60 : decode cX6_perform 60 = .ok (.bipush (-5), 2) := by decide +kernel
theorem dX6_perform_62 : decode cX6_perform 62 = .ok (.if_icmp .eq 14, 3) := by decide +kernel
theorem dX6_perform_65 : decode cX6_perform 65 = .ok (.aload_n 0, 1) := by decide +kernel
theorem dX6_perform_66 : decode cX6_perform 66 = .ok (.getfield 165, 3) := by decide +kernel
theorem dX6_perform_69 : decode cX6_perform 69 = .ok (.aload_n 0, 1) := by decide +kernel
theorem dX6_perform_70 : decode cX6_perform 70 = .ok (.getfield 162, 3) := by decide +kernel
theorem dX6_perform_73 : decode cX6_perform 73 = .ok (.if_icmp .eq 11, 3) := by decide +kernel
theorem dX6_perform_76 : decode cX6_perform 76 = .ok (.bipush (-100), 2) := by decide +kernel
theorem dX6_perform_78 : decode cX6_perform 78 = .ok (.aload_n 0, 1) := by decide +kernel
theorem dX6_perform_79 : decode cX6_perform 79 = .ok (.getfield 165, 3) := by decide +kernel
theorem dX6_perform_82 : decode cX6_perform 82 = .ok (.isub, 1) := by decide +kernel
theorem dX6_perform_83 : decode cX6_perform 83 = .ok (.ireturn, 1) := by decide +kernel
theorem dX6_perform_84 : decode cX6_perform 84 = .ok (.iload_n 1, 1) := by decide +kernel
theorem dX6_perform_85 : decode cX6_perform 85 = .ok (.tableswitch 79 0 3 #[31, 44, 57, 70], 31) := by decide +kernel
theorem dX6_perform_116 : decode cX6_perform 116 = .ok (.aload_n 0, 1) := by decide +kernel
theorem dX6_perform_117 : decode cX6_perform 117 = .ok (.aload_n 0, 1) := by decide +kernel
theorem dX6_perform_118 : decode cX6_perform 118 = .ok (.getfield 178, 3) := by decide +kernel
theorem dX6_perform_121 : decode cX6_perform 121 = .ok (.aload_n 0, 1) := by decide +kernel
theorem dX6_perform_122 : decode cX6_perform 122 = .ok (.getfield 181, 3) := by decide +kernel
theorem dX6_perform_125 : decode cX6_perform 125 = .ok (.invokevirtual 184, 3) := by decide +kernel
theorem dX6_perform_128 : decode cX6_perform 128 = .ok (.ireturn, 1) := by decide +kernel
theorem dX6_perform_129 : decode cX6_perform 129 = .ok (.aload_n 0, 1) := by decide +kernel
theorem dX6_perform_130 : decode cX6_perform 130 = .ok (.aload_n 0, 1) := by decide +kernel
theorem dX6_perform_131 : decode cX6_perform 131 = .ok (.getfield 178, 3) := by decide +kernel
theorem dX6_perform_134 : decode cX6_perform 134 = .ok (.aload_n 0, 1) := by decide +kernel
theorem dX6_perform_135 : decode cX6_perform 135 = .ok (.getfield 181, 3) := by decide +kernel
theorem dX6_perform_138 : decode cX6_perform 138 = .ok (.invokevirtual 187, 3) := by decide +kernel
theorem dX6_perform_141 : decode cX6_perform 141 = .ok (.ireturn, 1) := by decide +kernel
theorem dX6_perform_142 : decode cX6_perform 142 = .ok (.aload_n 0, 1) := by decide +kernel
theorem dX6_perform_143 : decode cX6_perform 143 = .ok (.aload_n 0, 1) := by decide +kernel
theorem dX6_perform_144 : decode cX6_perform 144 = .ok (.getfield 178, 3) := by decide +kernel
theorem dX6_perform_147 : decode cX6_perform 147 = .ok (.aload_n 0, 1) := by decide +kernel
theorem dX6_perform_148 : decode cX6_perform 148 = .ok (.getfield 181, 3) := by decide +kernel
theorem dX6_perform_151 : decode cX6_perform 151 = .ok (.invokevirtual 190, 3) := by decide +kernel
theorem dX6_perform_154 : decode cX6_perform 154 = .ok (.ireturn, 1) := by decide +kernel
theorem dX6_perform_155 : decode cX6_perform 155 = .ok (.aload_n 0, 1) := by decide +kernel
theorem dX6_perform_156 : decode cX6_perform 156 = .ok (.aload_n 0, 1) := by decide +kernel
theorem dX6_perform_157 : decode cX6_perform 157 = .ok (.getfield 178, 3) := by decide +kernel
theorem dX6_perform_160 : decode cX6_perform 160 = .ok (.invokevirtual 193, 3) := by decide +kernel
theorem dX6_perform_163 : decode cX6_perform 163 = .ok (.ireturn, 1) := by decide +kernel
theorem dX6_perform_164 : decode cX6_perform 164 = .ok (.aload_n 0, 1) := by decide +kernel
theorem dX6_perform_165 : decode cX6_perform 165 = .ok (.aload_n 0, 1) := by decide +kernel
theorem dX6_perform_166 : decode cX6_perform 166 = .ok (.getfield 178, 3) := by decide +kernel
theorem dX6_perform_169 : decode cX6_perform 169 = .ok (.aload_n 0, 1) := by decide +kernel
theorem dX6_perform_170 : decode cX6_perform 170 = .ok (.getfield 181, 3) := by decide +kernel
theorem dX6_perform_173 : decode cX6_perform 173 = .ok (.invokevirtual 196, 3) := by decide +kernel
theorem dX6_perform_176 : decode cX6_perform 176 = .ok (.ireturn, 1) := by decide +kernel
theorem dX6_undo_0 : decode cX6_undo 0 = .ok (.aload_n 0, 1) := by decide +kernel
theorem dX6_undo_1 : decode cX6_undo 1 = .ok (.getfield 33, 3) := by decide +kernel
theorem dX6_undo_4 : decode cX6_undo 4 = .ok (.ifCond .ne 6, 3) := by decide +kernel
theorem dX6_undo_7 : decode cX6_undo 7 = .ok (.bipush (-5), 2) := by decide +kernel
theorem dX6_undo_9 : decode cX6_undo 9 = .ok (.ireturn, 1) := by decide +kernel
theorem dX6_undo_10 : decode cX6_undo 10 = .ok (.aload_n 0, 1) := by decide +kernel
theorem dX6_undo_11 : decode cX6_undo 11 = .ok (.dup, 1) := by decide +kernel
theorem dX6_undo_12 : decode cX6_undo 12 = .ok (.getfield 33, 3) := by decide +kernel
theorem dX6_undo_15 : decode cX6_undo 15 = .ok (.iconst 1, 1) := by decide +kernel
theorem dX6_undo_16 : decode cX6_undo 16 = .ok (.isub, 1) := by decide +kernel
theorem dX6_undo_17 : decode cX6_undo 17 = .ok (.putfield 33, 3) := by decide +kernel
theorem dX6_undo_20 : decode cX6_undo 20 = .ok (.iconst 0, 1) := by decide +kernel
theorem dX6_undo_21 : decode cX6_undo 21 = .ok (.istore_n 1, 1) := by decide +kernel
theorem dX6_undo_22 : decode cX6_undo 22 = .ok (.iload_n 1, 1) := by decide +kernel
theorem dX6_undo_23 : decode cX6_undo 23 = .ok (.sipush 180, 3) := by decide +kernel
theorem dX6_undo_26 : decode cX6_undo 26 = .ok (.if_icmp .ge 30, 3) := by decide +kernel
theorem dX6_undo_29 : decode cX6_undo 29 = .ok (.aload_n 0, 1) := by decide +kernel
theorem dX6_undo_30 : decode cX6_undo 30 = .ok (.getfield 7, 3) := by decide +kernel
theorem dX6_undo_33 : decode cX6_undo 33 = .ok (.iload_n 1, 1) := by decide +kernel
theorem dX6_undo_34 : decode cX6_undo 34 = .ok (.aload_n 0, 1) := by decide +kernel
theorem dX6_undo_35 : decode cX6_undo 35 = .ok (.getfield 13, 3) := by decide +kernel
theorem dX6_undo_38 : decode cX6_undo 38 = .ok (.sipush 180, 3) := by decide +kernel
theorem dX6_undo_41 : decode cX6_undo 41 = .ok (.aload_n 0, 1) := by decide +kernel
theorem dX6_undo_42 : decode cX6_undo 42 = .ok (.getfield 33, 3) := by decide +kernel
theorem dX6_undo_45 : decode cX6_undo 45 = .ok (.imul, 1) := by decide +kernel
theorem dX6_undo_46 : decode cX6_undo 46 = .ok (.iload_n 1, 1) := by decide +kernel
theorem dX6_undo_47 : decode cX6_undo 47 = .ok (.iadd, 1) := by decide +kernel
theorem dX6_undo_48 : decode cX6_undo 48 = .ok (.iaload, 1) := by decide +kernel
theorem dX6_undo_49 : decode cX6_undo 49 = .ok (.iastore, 1) := by decide +kernel
theorem dX6_undo_50 : decode cX6_undo 50 = .ok (.iinc 1 1, 3) := by decide +kernel
theorem dX6_undo_53 : decode cX6_undo 53 = .ok (.goto (-31), 3) := by decide +kernel
theorem dX6_undo_56 : decode cX6_undo 56 = .ok (.iconst 0, 1) := by decide +kernel
theorem dX6_undo_57 : decode cX6_undo 57 = .ok (.istore_n 1, 1) := by decide +kernel
theorem dX6_undo_58 : decode cX6_undo 58 = .ok (.iload_n 1, 1) := by decide +kernel
theorem dX6_undo_59 : decode cX6_undo 59 = .ok (.bipush 17, 2) := by decide +kernel
theorem dX6_undo_61 : decode cX6_undo 61 = .ok (.if_icmp .ge 29, 3) := by decide +kernel
theorem dX6_undo_64 : decode cX6_undo 64 = .ok (.aload_n 0, 1) := by decide +kernel
theorem dX6_undo_65 : decode cX6_undo 65 = .ok (.getfield 19, 3) := by decide +kernel
theorem dX6_undo_68 : decode cX6_undo 68 = .ok (.iload_n 1, 1) := by decide +kernel
theorem dX6_undo_69 : decode cX6_undo 69 = .ok (.aload_n 0, 1) := by decide +kernel
theorem dX6_undo_70 : decode cX6_undo 70 = .ok (.getfield 23, 3) := by decide +kernel
theorem dX6_undo_73 : decode cX6_undo 73 = .ok (.bipush 17, 2) := by decide +kernel
theorem dX6_undo_75 : decode cX6_undo 75 = .ok (.aload_n 0, 1) := by decide +kernel
theorem dX6_undo_76 : decode cX6_undo 76 = .ok (.getfield 33, 3) := by decide +kernel
theorem dX6_undo_79 : decode cX6_undo 79 = .ok (.imul, 1) := by decide +kernel
theorem dX6_undo_80 : decode cX6_undo 80 = .ok (.iload_n 1, 1) := by decide +kernel
theorem dX6_undo_81 : decode cX6_undo 81 = .ok (.iadd, 1) := by decide +kernel
theorem dX6_undo_82 : decode cX6_undo 82 = .ok (.daload, 1) := by decide +kernel
theorem dX6_undo_83 : decode cX6_undo 83 = .ok (.dastore, 1) := by decide +kernel
theorem dX6_undo_84 : decode cX6_undo 84 = .ok (.iinc 1 1, 3) := by decide +kernel
theorem dX6_undo_87 : decode cX6_undo 87 = .ok (.goto (-29), 3) := by decide +kernel
theorem dX6_undo_90 : decode cX6_undo 90 = .ok (.aload_n 0, 1) := by decide +kernel
theorem dX6_undo_91 : decode cX6_undo 91 = .ok (.getfield 33, 3) := by decide +kernel
theorem dX6_undo_94 : decode cX6_undo 94 = .ok (.ireturn, 1) := by decide +kernel
theorem dX6_keep_0 : decode cX6_keep 0 = .ok (.iconst 0, 1) := by decide +kernel
theorem dX6_keep_1 : decode cX6_keep 1 = .ok (.istore_n 1, 1) := by decide +kernel
theorem dX6_keep_2 : decode cX6_keep 2 = .ok (.iload_n 1, 1) := by decide +kernel
theorem dX6_keep_3 : decode cX6_keep 3 = .ok (.sipush 180, 3) := by decide +kernel
theorem dX6_keep_6 : decode cX6_keep 6 = .ok (.if_icmp .ge 21, 3) := by decide +kernel
theorem dX6_keep_9 : decode cX6_keep 9 = .ok (.aload_n 0, 1) := by decide +kernel
theorem dX6_keep_10 : decode cX6_keep 10 = .ok (.getfield 16, 3) := by decide +kernel
theorem dX6_keep_13 : decode cX6_keep 13 = .ok (.iload_n 1, 1) := by decide +kernel
theorem dX6_keep_14 : decode cX6_keep 14 = .ok (.aload_n 0, 1) := by decide +kernel
theorem dX6_keep_15 : decode cX6_keep 15 = .ok (.getfield 7, 3) := by decide +kernel
theorem dX6_keep_18 : decode cX6_keep 18 = .ok (.iload_n 1, 1) := by decide +kernel
theorem dX6_keep_19 : decode cX6_keep 19 = .ok (.iaload, 1) := by decide +kernel
theorem dX6_keep_20 : decode cX6_keep 20 = .ok (.iastore, 1) := by decide +kernel
theorem dX6_keep_21 : decode cX6_keep 21 = .ok (.iinc 1 1, 3) := by decide +kernel
theorem dX6_keep_24 : decode cX6_keep 24 = .ok (.goto (-22), 3) := by decide +kernel
theorem dX6_keep_27 : decode cX6_keep 27 = .ok (.iconst 0, 1) := by decide +kernel
theorem dX6_keep_28 : decode cX6_keep 28 = .ok (.istore_n 1, 1) := by decide +kernel
theorem dX6_keep_29 : decode cX6_keep 29 = .ok (.iload_n 1, 1) := by decide +kernel
theorem dX6_keep_30 : decode cX6_keep 30 = .ok (.bipush 17, 2) := by decide +kernel
theorem dX6_keep_32 : decode cX6_keep 32 = .ok (.if_icmp .ge 21, 3) := by decide +kernel
theorem dX6_keep_35 : decode cX6_keep 35 = .ok (.aload_n 0, 1) := by decide +kernel
theorem dX6_keep_36 : decode cX6_keep 36 = .ok (.getfield 26, 3) := by decide +kernel
theorem dX6_keep_39 : decode cX6_keep 39 = .ok (.iload_n 1, 1) := by decide +kernel
theorem dX6_keep_40 : decode cX6_keep 40 = .ok (.aload_n 0, 1) := by decide +kernel
theorem dX6_keep_41 : decode cX6_keep 41 = .ok (.getfield 19, 3) := by decide +kernel
theorem dX6_keep_44 : decode cX6_keep 44 = .ok (.iload_n 1, 1) := by decide +kernel
theorem dX6_keep_45 : decode cX6_keep 45 = .ok (.daload, 1) := by decide +kernel
theorem dX6_keep_46 : decode cX6_keep 46 = .ok (.dastore, 1) := by decide +kernel
theorem dX6_keep_47 : decode cX6_keep 47 = .ok (.iinc 1 1, 3) := by decide +kernel
theorem dX6_keep_50 : decode cX6_keep 50 = .ok (.goto (-21), 3) := by decide +kernel
theorem dX6_keep_53 : decode cX6_keep 53 = .ok (.aload_n 0, 1) := by decide +kernel
theorem dX6_keep_54 : decode cX6_keep 54 = .ok (.iconst 1, 1) := by decide +kernel
theorem dX6_keep_55 : decode cX6_keep 55 = .ok (.putfield 199, 3) := by decide +kernel
theorem dX6_keep_58 : decode cX6_keep 58 = .ok (.aload_n 0, 1) := by decide +kernel
theorem dX6_keep_59 : decode cX6_keep 59 = .ok (.getfield 7, 3) := by decide +kernel
theorem dX6_keep_62 : decode cX6_keep 62 = .ok (.iconst 0, 1) := by decide +kernel
theorem dX6_keep_63 : decode cX6_keep 63 = .ok (.iaload, 1) := by decide +kernel
theorem dX6_keep_64 : decode cX6_keep 64 = .ok (.ireturn, 1) := by decide +kernel
theorem dX6_restore_0 : decode cX6_restore 0 = .ok (.aload_n 0, 1) := by decide +kernel
theorem dX6_restore_1 : decode cX6_restore 1 = .ok (.getfield 199, 3) := by decide +kernel
theorem dX6_restore_4 : decode cX6_restore 4 = .ok (.ifCond .ne 6, 3) := by decide +kernel
theorem dX6_restore_7 : decode cX6_restore 7 = .ok (.bipush (-5), 2) := by decide +kernel
theorem dX6_restore_9 : decode cX6_restore 9 = .ok (.ireturn, 1) := by decide +kernel
theorem dX6_restore_10 : decode cX6_restore 10 = .ok (.aload_n 0, 1) := by decide +kernel
theorem dX6_restore_11 : decode cX6_restore 11 = .ok (.invokevirtual 49, 3) := by decide +kernel
theorem dX6_restore_14 : decode cX6_restore 14 = .ok (.iconst 0, 1) := by decide +kernel
theorem dX6_restore_15 : decode cX6_restore 15 = .ok (.istore_n 1, 1) := by decide +kernel
theorem dX6_restore_16 : decode cX6_restore 16 = .ok (.iload_n 1, 1) := by decide +kernel
theorem dX6_restore_17 : decode cX6_restore 17 = .ok (.sipush 180, 3) := by decide +kernel
theorem dX6_restore_20 : decode cX6_restore 20 = .ok (.if_icmp .ge 21, 3) := by decide +kernel
theorem dX6_restore_23 : decode cX6_restore 23 = .ok (.aload_n 0, 1) := by decide +kernel
theorem dX6_restore_24 : decode cX6_restore 24 = .ok (.getfield 7, 3) := by decide +kernel
theorem dX6_restore_27 : decode cX6_restore 27 = .ok (.iload_n 1, 1) := by decide +kernel
theorem dX6_restore_28 : decode cX6_restore 28 = .ok (.aload_n 0, 1) := by decide +kernel
theorem dX6_restore_29 : decode cX6_restore 29 = .ok (.getfield 16, 3) := by decide +kernel
theorem dX6_restore_32 : decode cX6_restore 32 = .ok (.iload_n 1, 1) := by decide +kernel
theorem dX6_restore_33 : decode cX6_restore 33 = .ok (.iaload, 1) := by decide +kernel
theorem dX6_restore_34 : decode cX6_restore 34 = .ok (.iastore, 1) := by decide +kernel
theorem dX6_restore_35 : decode cX6_restore 35 = .ok (.iinc 1 1, 3) := by decide +kernel
theorem dX6_restore_38 : decode cX6_restore 38 = .ok (.goto (-22), 3) := by decide +kernel
theorem dX6_restore_41 : decode cX6_restore 41 = .ok (.iconst 0, 1) := by decide +kernel
theorem dX6_restore_42 : decode cX6_restore 42 = .ok (.istore_n 1, 1) := by decide +kernel
theorem dX6_restore_43 : decode cX6_restore 43 = .ok (.iload_n 1, 1) := by decide +kernel
theorem dX6_restore_44 : decode cX6_restore 44 = .ok (.bipush 17, 2) := by decide +kernel
theorem dX6_restore_46 : decode cX6_restore 46 = .ok (.if_icmp .ge 21, 3) := by decide +kernel
theorem dX6_restore_49 : decode cX6_restore 49 = .ok (.aload_n 0, 1) := by decide +kernel
theorem dX6_restore_50 : decode cX6_restore 50 = .ok (.getfield 19, 3) := by decide +kernel
theorem dX6_restore_53 : decode cX6_restore 53 = .ok (.iload_n 1, 1) := by decide +kernel
theorem dX6_restore_54 : decode cX6_restore 54 = .ok (.aload_n 0, 1) := by decide +kernel
theorem dX6_restore_55 : decode cX6_restore 55 = .ok (.getfield 26, 3) := by decide +kernel
theorem dX6_restore_58 : decode cX6_restore 58 = .ok (.iload_n 1, 1) := by decide +kernel
theorem dX6_restore_59 : decode cX6_restore 59 = .ok (.daload, 1) := by decide +kernel
theorem dX6_restore_60 : decode cX6_restore 60 = .ok (.dastore, 1) := by decide +kernel
theorem dX6_restore_61 : decode cX6_restore 61 = .ok (.iinc 1 1, 3) := by decide +kernel
theorem dX6_restore_64 : decode cX6_restore 64 = .ok (.goto (-21), 3) := by decide +kernel
theorem dX6_restore_67 : decode cX6_restore 67 = .ok (.aload_n 0, 1) := by decide +kernel
theorem dX6_restore_68 : decode cX6_restore 68 = .ok (.getfield 7, 3) := by decide +kernel
theorem dX6_restore_71 : decode cX6_restore 71 = .ok (.iconst 0, 1) := by decide +kernel
theorem dX6_restore_72 : decode cX6_restore 72 = .ok (.iaload, 1) := by decide +kernel
theorem dX6_restore_73 : decode cX6_restore 73 = .ok (.ireturn, 1) := by decide +kernel
theorem dX6_lowestTour_0 : decode cX6_lowestTour 0 = .ok (.iconst 0, 1) := by decide +kernel
theorem dX6_lowestTour_1 : decode cX6_lowestTour 1 = .ok (.istore_n 2, 1) := by decide +kernel
theorem dX6_lowestTour_2 : decode cX6_lowestTour 2 = .ok (.iload_n 2, 1) := by decide +kernel
theorem dX6_lowestTour_3 : decode cX6_lowestTour 3 = .ok (.aload_n 0, 1) := by decide +kernel
theorem dX6_lowestTour_4 : decode cX6_lowestTour 4 = .ok (.getfield 7, 3) := by decide +kernel
theorem dX6_lowestTour_7 : decode cX6_lowestTour 7 = .ok (.iconst 3, 1) := by decide +kernel
theorem dX6_lowestTour_8 : decode cX6_lowestTour 8 = .ok (.iaload, 1) := by decide +kernel
theorem dX6_lowestTour_9 : decode cX6_lowestTour 9 = .ok (.if_icmp .ge 28, 3) := by decide +kernel
theorem dX6_lowestTour_12 : decode cX6_lowestTour 12 = .ok (.aload_n 0, 1) := by decide +kernel
theorem dX6_lowestTour_13 : decode cX6_lowestTour 13 = .ok (.iload_n 2, 1) := by decide +kernel
theorem dX6_lowestTour_14 : decode cX6_lowestTour 14 = .ok (.invokevirtual 117, 3) := by decide +kernel
theorem dX6_lowestTour_17 : decode cX6_lowestTour 17 = .ok (.ifCond .eq 14, 3) := by decide +kernel
theorem dX6_lowestTour_20 : decode cX6_lowestTour 20 = .ok (.aload_n 0, 1) := by decide +kernel
theorem dX6_lowestTour_21 : decode cX6_lowestTour 21 = .ok (.iload_n 1, 1) := by decide +kernel
theorem dX6_lowestTour_22 : decode cX6_lowestTour 22 = .ok (.iload_n 2, 1) := by decide +kernel
theorem dX6_lowestTour_23 : decode cX6_lowestTour 23 = .ok (.invokevirtual 128, 3) := by decide +kernel
theorem dX6_lowestTour_26 : decode cX6_lowestTour 26 = .ok (.ifCond .eq 5, 3) := by decide +kernel
theorem dX6_lowestTour_29 : decode cX6_lowestTour 29 = .ok (.iload_n 2, 1) := by decide +kernel
theorem dX6_lowestTour_30 : decode cX6_lowestTour 30 = .ok (.ireturn, 1) := by decide +kernel
theorem dX6_lowestTour_31 : decode cX6_lowestTour 31 = .ok (.iinc 2 1, 3) := by decide +kernel
theorem dX6_lowestTour_34 : decode cX6_lowestTour 34 = .ok (.goto (-32), 3) := by decide +kernel
theorem dX6_lowestTour_37 : decode cX6_lowestTour 37 = .ok (.bipush (-5), 2) := by decide +kernel
theorem dX6_lowestTour_39 : decode cX6_lowestTour 39 = .ok (.ireturn, 1) := by decide +kernel
theorem dX6_guide_0 : decode cX6_guide 0 = .ok (.aload_n 0, 1) := by decide +kernel
theorem dX6_guide_1 : decode cX6_guide 1 = .ok (.iload_n 1, 1) := by decide +kernel
theorem dX6_guide_2 : decode cX6_guide 2 = .ok (.invokevirtual 52, 3) := by decide +kernel
theorem dX6_guide_5 : decode cX6_guide 5 = .ok (.ifCond .eq 5, 3) := by decide +kernel
theorem dX6_guide_8 : decode cX6_guide 8 = .ok (.iconst (-1), 1) := by decide +kernel
theorem dX6_guide_9 : decode cX6_guide 9 = .ok (.ireturn, 1) := by decide +kernel
theorem dX6_guide_10 : decode cX6_guide 10 = .ok (.iload_n 2, 1) := by decide +kernel
theorem dX6_guide_11 : decode cX6_guide 11 = .ok (.tableswitch 92 0 5 #[37, 44, 51, 72, 78, 85], 37) := by decide +kernel
theorem dX6_guide_48 : decode cX6_guide 48 = .ok (.aload_n 0, 1) := by decide +kernel
theorem dX6_guide_49 : decode cX6_guide 49 = .ok (.iload_n 1, 1) := by decide +kernel
theorem dX6_guide_50 : decode cX6_guide 50 = .ok (.iconst 0, 1) := by decide +kernel
theorem dX6_guide_51 : decode cX6_guide 51 = .ok (.invokevirtual 56, 3) := by decide +kernel
theorem dX6_guide_54 : decode cX6_guide 54 = .ok (.ireturn, 1) := by decide +kernel
theorem dX6_guide_55 : decode cX6_guide 55 = .ok (.aload_n 0, 1) := by decide +kernel
theorem dX6_guide_56 : decode cX6_guide 56 = .ok (.iload_n 1, 1) := by decide +kernel
theorem dX6_guide_57 : decode cX6_guide 57 = .ok (.iconst 1, 1) := by decide +kernel
theorem dX6_guide_58 : decode cX6_guide 58 = .ok (.invokevirtual 56, 3) := by decide +kernel
theorem dX6_guide_61 : decode cX6_guide 61 = .ok (.ireturn, 1) := by decide +kernel
theorem dX6_guide_62 : decode cX6_guide 62 = .ok (.aload_n 0, 1) := by decide +kernel
theorem dX6_guide_63 : decode cX6_guide 63 = .ok (.iload_n 1, 1) := by decide +kernel
theorem dX6_guide_64 : decode cX6_guide 64 = .ok (.iconst 1, 1) := by decide +kernel
theorem dX6_guide_65 : decode cX6_guide 65 = .ok (.invokevirtual 56, 3) := by decide +kernel
theorem dX6_guide_68 : decode cX6_guide 68 = .ok (.aload_n 0, 1) := by decide +kernel
theorem dX6_guide_69 : decode cX6_guide 69 = .ok (.getfield 7, 3) := by decide +kernel
theorem dX6_guide_72 : decode cX6_guide 72 = .ok (.iconst 0, 1) := by decide +kernel
theorem dX6_guide_73 : decode cX6_guide 73 = .ok (.iaload, 1) := by decide +kernel
theorem dX6_guide_74 : decode cX6_guide 74 = .ok (.if_icmp .lt 7, 3) := by decide +kernel
theorem dX6_guide_77 : decode cX6_guide 77 = .ok (.iconst 1, 1) := by decide +kernel
theorem dX6_guide_78 : decode cX6_guide 78 = .ok (.goto 4, 3) := by decide +kernel
theorem dX6_guide_81 : decode cX6_guide 81 = .ok (.iconst 0, 1) := by decide +kernel
theorem dX6_guide_82 : decode cX6_guide 82 = .ok (.ireturn, 1) := by decide +kernel
theorem dX6_guide_83 : decode cX6_guide 83 = .ok (.aload_n 0, 1) := by decide +kernel
theorem dX6_guide_84 : decode cX6_guide 84 = .ok (.iload_n 1, 1) := by decide +kernel
theorem dX6_guide_85 : decode cX6_guide 85 = .ok (.invokevirtual 203, 3) := by decide +kernel
theorem dX6_guide_88 : decode cX6_guide 88 = .ok (.ireturn, 1) := by decide +kernel
theorem dX6_guide_89 : decode cX6_guide 89 = .ok (.aload_n 0, 1) := by decide +kernel
theorem dX6_guide_90 : decode cX6_guide 90 = .ok (.iload_n 1, 1) := by decide +kernel
theorem dX6_guide_91 : decode cX6_guide 91 = .ok (.iconst 2, 1) := by decide +kernel
theorem dX6_guide_92 : decode cX6_guide 92 = .ok (.invokevirtual 56, 3) := by decide +kernel
theorem dX6_guide_95 : decode cX6_guide 95 = .ok (.ireturn, 1) := by decide +kernel
theorem dX6_guide_96 : decode cX6_guide 96 = .ok (.aload_n 0, 1) := by decide +kernel
theorem dX6_guide_97 : decode cX6_guide 97 = .ok (.iload_n 1, 1) := by decide +kernel
theorem dX6_guide_98 : decode cX6_guide 98 = .ok (.iconst 3, 1) := by decide +kernel
theorem dX6_guide_99 : decode cX6_guide 99 = .ok (.invokevirtual 56, 3) := by decide +kernel
theorem dX6_guide_102 : decode cX6_guide 102 = .ok (.ireturn, 1) := by decide +kernel
theorem dX6_guide_103 : decode cX6_guide 103 = .ok (.bipush (-2), 2) := by decide +kernel
theorem dX6_guide_105 : decode cX6_guide 105 = .ok (.ireturn, 1) := by decide +kernel
theorem dX6_tour_0 : decode cX6_tour 0 = .ok (.aload_n 0, 1) := by decide +kernel
theorem dX6_tour_1 : decode cX6_tour 1 = .ok (.iload_n 1, 1) := by decide +kernel
theorem dX6_tour_2 : decode cX6_tour 2 = .ok (.invokevirtual 114, 3) := by decide +kernel
theorem dX6_tour_5 : decode cX6_tour 5 = .ok (.ifCond .eq 5, 3) := by decide +kernel
theorem dX6_tour_8 : decode cX6_tour 8 = .ok (.iconst (-1), 1) := by decide +kernel
theorem dX6_tour_9 : decode cX6_tour 9 = .ok (.ireturn, 1) := by decide +kernel
theorem dX6_tour_10 : decode cX6_tour 10 = .ok (.iload_n 2, 1) := by decide +kernel
theorem dX6_tour_11 : decode cX6_tour 11 = .ok (.iconst 0, 1) := by decide +kernel
theorem dX6_tour_12 : decode cX6_tour 12 = .ok (.bipush 6, 2) := by decide +kernel
theorem dX6_tour_14 : decode cX6_tour 14 = .ok (.invokestatic 37, 3) := by decide +kernel
theorem dX6_tour_17 : decode cX6_tour 17 = .ok (.ifCond .eq 10, 3) := by decide +kernel
theorem dX6_tour_20 : decode cX6_tour 20 = .ok (.aload_n 0, 1) := by decide +kernel
theorem dX6_tour_21 : decode cX6_tour 21 = .ok (.iload_n 1, 1) := by decide +kernel
theorem dX6_tour_22 : decode cX6_tour 22 = .ok (.iload_n 2, 1) := by decide +kernel
theorem dX6_tour_23 : decode cX6_tour 23 = .ok (.invokevirtual 41, 3) := by decide +kernel
theorem dX6_tour_26 : decode cX6_tour 26 = .ok (.ireturn, 1) := by decide +kernel
theorem dX6_tour_27 : decode cX6_tour 27 = .ok (.iload_n 2, 1) := by decide +kernel
theorem dX6_tour_28 : decode cX6_tour 28 = .ok (.tableswitch 87 7 10 #[32, 56, 62, 68], 32) := by decide +kernel
theorem dX6_tour_60 : decode cX6_tour 60 = .ok (.aload_n 0, 1) := by decide +kernel
theorem dX6_tour_61 : decode cX6_tour 61 = .ok (.iload_n 1, 1) := by decide +kernel
theorem dX6_tour_62 : decode cX6_tour 62 = .ok (.bipush 6, 2) := by decide +kernel
theorem dX6_tour_64 : decode cX6_tour 64 = .ok (.invokevirtual 41, 3) := by decide +kernel
theorem dX6_tour_67 : decode cX6_tour 67 = .ok (.iconst 2, 1) := by decide +kernel
theorem dX6_tour_68 : decode cX6_tour 68 = .ok (.if_icmp .ne 13, 3) := by decide +kernel
theorem dX6_tour_71 : decode cX6_tour 71 = .ok (.aload_n 0, 1) := by decide +kernel
theorem dX6_tour_72 : decode cX6_tour 72 = .ok (.iload_n 1, 1) := by decide +kernel
theorem dX6_tour_73 : decode cX6_tour 73 = .ok (.bipush 7, 2) := by decide +kernel
theorem dX6_tour_75 : decode cX6_tour 75 = .ok (.invokevirtual 41, 3) := by decide +kernel
theorem dX6_tour_78 : decode cX6_tour 78 = .ok (.goto 5, 3) := by decide +kernel
theorem dX6_tour_81 : decode cX6_tour 81 = .ok (.bipush (-5), 2) := by decide +kernel
theorem dX6_tour_83 : decode cX6_tour 83 = .ok (.ireturn, 1) := by decide +kernel
theorem dX6_tour_84 : decode cX6_tour 84 = .ok (.aload_n 0, 1) := by decide +kernel
theorem dX6_tour_85 : decode cX6_tour 85 = .ok (.iload_n 1, 1) := by decide +kernel
theorem dX6_tour_86 : decode cX6_tour 86 = .ok (.invokevirtual 105, 3) := by decide +kernel
theorem dX6_tour_89 : decode cX6_tour 89 = .ok (.ireturn, 1) := by decide +kernel
theorem dX6_tour_90 : decode cX6_tour 90 = .ok (.aload_n 0, 1) := by decide +kernel
theorem dX6_tour_91 : decode cX6_tour 91 = .ok (.iload_n 1, 1) := by decide +kernel
theorem dX6_tour_92 : decode cX6_tour 92 = .ok (.invokevirtual 83, 3) := by decide +kernel
theorem dX6_tour_95 : decode cX6_tour 95 = .ok (.ireturn, 1) := by decide +kernel
theorem dX6_tour_96 : decode cX6_tour 96 = .ok (.aload_n 0, 1) := by decide +kernel
theorem dX6_tour_97 : decode cX6_tour 97 = .ok (.iload_n 1, 1) := by decide +kernel
theorem dX6_tour_98 : decode cX6_tour 98 = .ok (.invokevirtual 117, 3) := by decide +kernel
theorem dX6_tour_101 : decode cX6_tour 101 = .ok (.ifCond .eq 11, 3) := by decide +kernel
theorem dX6_tour_104 : decode cX6_tour 104 = .ok (.aload_n 0, 1) := by decide +kernel
theorem dX6_tour_105 : decode cX6_tour 105 = .ok (.iload_n 1, 1) := by decide +kernel
theorem dX6_tour_106 : decode cX6_tour 106 = .ok (.invokevirtual 147, 3) := by decide +kernel
theorem dX6_tour_109 : decode cX6_tour 109 = .ok (.goto 5, 3) := by decide +kernel
theorem dX6_tour_112 : decode cX6_tour 112 = .ok (.bipush (-5), 2) := by decide +kernel
theorem dX6_tour_114 : decode cX6_tour 114 = .ok (.ireturn, 1) := by decide +kernel
theorem dX6_tour_115 : decode cX6_tour 115 = .ok (.bipush (-2), 2) := by decide +kernel
theorem dX6_tour_117 : decode cX6_tour 117 = .ok (.ireturn, 1) := by decide +kernel
theorem dX6_rope_0 : decode cX6_rope 0 = .ok (.aload_n 0, 1) := by decide +kernel
theorem dX6_rope_1 : decode cX6_rope 1 = .ok (.iload_n 1, 1) := by decide +kernel
theorem dX6_rope_2 : decode cX6_rope 2 = .ok (.invokevirtual 114, 3) := by decide +kernel
theorem dX6_rope_5 : decode cX6_rope 5 = .ok (.ifCond .eq 5, 3) := by decide +kernel
theorem dX6_rope_8 : decode cX6_rope 8 = .ok (.iconst (-1), 1) := by decide +kernel
theorem dX6_rope_9 : decode cX6_rope 9 = .ok (.ireturn, 1) := by decide +kernel
theorem dX6_rope_10 : decode cX6_rope 10 = .ok (.iload_n 2, 1) := by decide +kernel
theorem dX6_rope_11 : decode cX6_rope 11 = .ok (.ifCond .lt 12, 3) := by decide +kernel
theorem dX6_rope_14 : decode cX6_rope 14 = .ok (.iload_n 3, 1) := by decide +kernel
theorem dX6_rope_15 : decode cX6_rope 15 = .ok (.iconst 0, 1) := by decide +kernel
theorem dX6_rope_16 : decode cX6_rope 16 = .ok (.iconst 2, 1) := by decide +kernel
theorem dX6_rope_17 : decode cX6_rope 17 = .ok (.invokestatic 37, 3) := by decide +kernel
theorem dX6_rope_20 : decode cX6_rope 20 = .ok (.ifCond .ne 6, 3) := by decide +kernel
theorem dX6_rope_23 : decode cX6_rope 23 = .ok (.bipush (-2), 2) := by decide +kernel
theorem dX6_rope_25 : decode cX6_rope 25 = .ok (.ireturn, 1) := by decide +kernel
theorem dX6_rope_26 : decode cX6_rope 26 = .ok (.iload_n 2, 1) := by decide +kernel
theorem dX6_rope_27 : decode cX6_rope 27 = .ok (.aload_n 0, 1) := by decide +kernel
theorem dX6_rope_28 : decode cX6_rope 28 = .ok (.iload_n 1, 1) := by decide +kernel
theorem dX6_rope_29 : decode cX6_rope 29 = .ok (.iconst 4, 1) := by decide +kernel
theorem dX6_rope_30 : decode cX6_rope 30 = .ok (.invokevirtual 41, 3) := by decide +kernel
theorem dX6_rope_33 : decode cX6_rope 33 = .ok (.if_icmp .lt 6, 3) := by decide +kernel
theorem dX6_rope_36 : decode cX6_rope 36 = .ok (.bipush (-5), 2) := by decide +kernel
theorem dX6_rope_38 : decode cX6_rope 38 = .ok (.ireturn, 1) := by decide +kernel
theorem dX6_rope_39 : decode cX6_rope 39 = .ok (.aload_n 0, 1) := by decide +kernel
theorem dX6_rope_40 : decode cX6_rope 40 = .ok (.iload_n 1, 1) := by decide +kernel
theorem dX6_rope_41 : decode cX6_rope 41 = .ok (.iload_n 2, 1) := by decide +kernel
theorem dX6_rope_42 : decode cX6_rope 42 = .ok (.invokevirtual 87, 3) := by decide +kernel
theorem dX6_rope_45 : decode cX6_rope 45 = .ok (.istore 4, 2) := by decide +kernel
theorem dX6_rope_47 : decode cX6_rope 47 = .ok (.iload_n 3, 1) := by decide +kernel
theorem dX6_rope_48 : decode cX6_rope 48 = .ok (.ifCond .ne 8, 3) := by decide +kernel
theorem dX6_rope_51 : decode cX6_rope 51 = .ok (.iload 4, 2) := by decide +kernel
theorem dX6_rope_53 : decode cX6_rope 53 = .ok (.goto 24, 3) := by decide +kernel
theorem dX6_rope_56 : decode cX6_rope 56 = .ok (.iload_n 3, 1) := by decide +kernel
theorem dX6_rope_57 : decode cX6_rope 57 = .ok (.iconst 1, 1) := by decide +kernel
theorem dX6_rope_58 : decode cX6_rope 58 = .ok (.if_icmp .ne 13, 3) := by decide +kernel
theorem dX6_rope_61 : decode cX6_rope 61 = .ok (.aload_n 0, 1) := by decide +kernel
theorem dX6_rope_62 : decode cX6_rope 62 = .ok (.iload_n 1, 1) := by decide +kernel
theorem dX6_rope_63 : decode cX6_rope 63 = .ok (.iload 4, 2) := by decide +kernel
theorem dX6_rope_65 : decode cX6_rope 65 = .ok (.invokevirtual 90, 3) := by decide +kernel
theorem dX6_rope_68 : decode cX6_rope 68 = .ok (.goto 9, 3) := by decide +kernel
theorem dX6_rope_71 : decode cX6_rope 71 = .ok (.aload_n 0, 1) := by decide +kernel
theorem dX6_rope_72 : decode cX6_rope 72 = .ok (.iload_n 1, 1) := by decide +kernel
theorem dX6_rope_73 : decode cX6_rope 73 = .ok (.iload_n 2, 1) := by decide +kernel
theorem dX6_rope_74 : decode cX6_rope 74 = .ok (.invokevirtual 93, 3) := by decide +kernel
theorem dX6_rope_77 : decode cX6_rope 77 = .ok (.ireturn, 1) := by decide +kernel
theorem dX6_nothing_0 : decode cX6_nothing 0 = .ok (.ldc2_w 206, 3) := by decide +kernel
theorem dX6_nothing_3 : decode cX6_nothing 3 = .ok (.dreturn, 1) := by decide +kernel
theorem dX6_thickness_0 : decode cX6_thickness 0 = .ok (.aload_n 0, 1) := by decide +kernel
theorem dX6_thickness_1 : decode cX6_thickness 1 = .ok (.iload_n 1, 1) := by decide +kernel
theorem dX6_thickness_2 : decode cX6_thickness 2 = .ok (.invokevirtual 208, 3) := by decide +kernel
theorem dX6_thickness_5 : decode cX6_thickness 5 = .ok (.ifCond .eq 9, 3) := by decide +kernel
theorem dX6_thickness_8 : decode cX6_thickness 8 = .ok (.invokestatic 211, 3) := by decide +kernel
theorem dX6_thickness_11 : decode cX6_thickness 11 = .ok (.goto 11, 3) := by decide +kernel
theorem dX6_thickness_14 : decode cX6_thickness 14 = .ok (.aload_n 0, 1) := by decide +kernel
theorem dX6_thickness_15 : decode cX6_thickness 15 = .ok (.getfield 19, 3) := by decide +kernel
theorem dX6_thickness_18 : decode cX6_thickness 18 = .ok (.iconst 1, 1) := by decide +kernel
theorem dX6_thickness_19 : decode cX6_thickness 19 = .ok (.iload_n 1, 1) := by decide +kernel
theorem dX6_thickness_20 : decode cX6_thickness 20 = .ok (.iadd, 1) := by decide +kernel
theorem dX6_thickness_21 : decode cX6_thickness 21 = .ok (.daload, 1) := by decide +kernel
theorem dX6_thickness_22 : decode cX6_thickness 22 = .ok (.dreturn, 1) := by decide +kernel
theorem dX6_foretold_0 : decode cX6_foretold 0 = .ok (.aload_n 0, 1) := by decide +kernel
theorem dX6_foretold_1 : decode cX6_foretold 1 = .ok (.iload_n 1, 1) := by decide +kernel
theorem dX6_foretold_2 : decode cX6_foretold 2 = .ok (.invokevirtual 208, 3) := by decide +kernel
theorem dX6_foretold_5 : decode cX6_foretold 5 = .ok (.ifCond .ne 13, 3) := by decide +kernel
theorem dX6_foretold_8 : decode cX6_foretold 8 = .ok (.iload_n 2, 1) := by decide +kernel
theorem dX6_foretold_9 : decode cX6_foretold 9 = .ok (.iconst 0, 1) := by decide +kernel
theorem dX6_foretold_10 : decode cX6_foretold 10 = .ok (.bipush 30, 2) := by decide +kernel
theorem dX6_foretold_12 : decode cX6_foretold 12 = .ok (.invokestatic 37, 3) := by decide +kernel
theorem dX6_foretold_15 : decode cX6_foretold 15 = .ok (.ifCond .ne 7, 3) := by decide +kernel
theorem dX6_foretold_18 : decode cX6_foretold 18 = .ok (.invokestatic 211, 3) := by decide +kernel
theorem dX6_foretold_21 : decode cX6_foretold 21 = .ok (.dreturn, 1) := by decide +kernel
theorem dX6_foretold_22 : decode cX6_foretold 22 = .ok (.aload_n 0, 1) := by decide +kernel
theorem dX6_foretold_23 : decode cX6_foretold 23 = .ok (.getfield 19, 3) := by decide +kernel
theorem dX6_foretold_26 : decode cX6_foretold 26 = .ok (.iconst 1, 1) := by decide +kernel
theorem dX6_foretold_27 : decode cX6_foretold 27 = .ok (.iload_n 1, 1) := by decide +kernel
theorem dX6_foretold_28 : decode cX6_foretold 28 = .ok (.iadd, 1) := by decide +kernel
theorem dX6_foretold_29 : decode cX6_foretold 29 = .ok (.daload, 1) := by decide +kernel
theorem dX6_foretold_30 : decode cX6_foretold 30 = .ok (.dstore_n 3, 1) := by decide +kernel
theorem dX6_foretold_31 : decode cX6_foretold 31 = .ok (.iconst 0, 1) := by decide +kernel
theorem dX6_foretold_32 : decode cX6_foretold 32 = .ok (.istore 5, 2) := by decide +kernel
theorem dX6_foretold_34 : decode cX6_foretold 34 = .ok (.iload 5, 2) := by decide +kernel
theorem dX6_foretold_36 : decode cX6_foretold 36 = .ok (.iload_n 2, 1) := by decide +kernel
theorem dX6_foretold_37 : decode cX6_foretold 37 = .ok (.if_icmp .ge 15, 3) := by decide +kernel
theorem dX6_foretold_40 : decode cX6_foretold 40 = .ok (.aload_n 0, 1) := by decide +kernel
theorem dX6_foretold_41 : decode cX6_foretold 41 = .ok (.dload_n 3, 1) := by decide +kernel
theorem dX6_foretold_42 : decode cX6_foretold 42 = .ok (.invokevirtual 154, 3) := by decide +kernel
theorem dX6_foretold_45 : decode cX6_foretold 45 = .ok (.dstore_n 3, 1) := by decide +kernel
theorem dX6_foretold_46 : decode cX6_foretold 46 = .ok (.iinc 5 1, 3) := by decide +kernel
theorem dX6_foretold_49 : decode cX6_foretold 49 = .ok (.goto (-15), 3) := by decide +kernel
theorem dX6_foretold_52 : decode cX6_foretold 52 = .ok (.dload_n 3, 1) := by decide +kernel
theorem dX6_foretold_53 : decode cX6_foretold 53 = .ok (.dreturn, 1) := by decide +kernel
theorem dX6_needed_0 : decode cX6_needed 0 = .ok (.aload_n 0, 1) := by decide +kernel
theorem dX6_needed_1 : decode cX6_needed 1 = .ok (.iload_n 1, 1) := by decide +kernel
theorem dX6_needed_2 : decode cX6_needed 2 = .ok (.invokevirtual 114, 3) := by decide +kernel
theorem dX6_needed_5 : decode cX6_needed 5 = .ok (.ifCond .eq 9, 3) := by decide +kernel
theorem dX6_needed_8 : decode cX6_needed 8 = .ok (.invokestatic 211, 3) := by decide +kernel
theorem dX6_needed_11 : decode cX6_needed 11 = .ok (.goto 8, 3) := by decide +kernel
theorem dX6_needed_14 : decode cX6_needed 14 = .ok (.aload_n 0, 1) := by decide +kernel
theorem dX6_needed_15 : decode cX6_needed 15 = .ok (.iload_n 1, 1) := by decide +kernel
theorem dX6_needed_16 : decode cX6_needed 16 = .ok (.invokevirtual 98, 3) := by decide +kernel
theorem dX6_needed_19 : decode cX6_needed 19 = .ok (.dreturn, 1) := by decide +kernel
theorem dX6_holds_0 : decode cX6_holds 0 = .ok (.aload_n 0, 1) := by decide +kernel
theorem dX6_holds_1 : decode cX6_holds 1 = .ok (.iload_n 1, 1) := by decide +kernel
theorem dX6_holds_2 : decode cX6_holds 2 = .ok (.invokevirtual 114, 3) := by decide +kernel
theorem dX6_holds_5 : decode cX6_holds 5 = .ok (.ifCond .ne 11, 3) := by decide +kernel
theorem dX6_holds_8 : decode cX6_holds 8 = .ok (.aload_n 0, 1) := by decide +kernel
theorem dX6_holds_9 : decode cX6_holds 9 = .ok (.iload_n 2, 1) := by decide +kernel
theorem dX6_holds_10 : decode cX6_holds 10 = .ok (.invokevirtual 208, 3) := by decide +kernel
theorem dX6_holds_13 : decode cX6_holds 13 = .ok (.ifCond .eq 7, 3) := by decide +kernel
theorem dX6_holds_16 : decode cX6_holds 16 = .ok (.iconst (-1), 1) := by decide +kernel
theorem dX6_holds_17 : decode cX6_holds 17 = .ok (.goto 17, 3) := by decide +kernel
theorem dX6_holds_20 : decode cX6_holds 20 = .ok (.aload_n 0, 1) := by decide +kernel
theorem dX6_holds_21 : decode cX6_holds 21 = .ok (.iload_n 1, 1) := by decide +kernel
theorem dX6_holds_22 : decode cX6_holds 22 = .ok (.iload_n 2, 1) := by decide +kernel
theorem dX6_holds_23 : decode cX6_holds 23 = .ok (.invokevirtual 102, 3) := by decide +kernel
theorem dX6_holds_26 : decode cX6_holds 26 = .ok (.ifCond .eq 7, 3) := by decide +kernel
theorem dX6_holds_29 : decode cX6_holds 29 = .ok (.iconst 1, 1) := by decide +kernel
theorem dX6_holds_30 : decode cX6_holds 30 = .ok (.goto 4, 3) := by decide +kernel
theorem dX6_holds_33 : decode cX6_holds 33 = .ok (.iconst 0, 1) := by decide +kernel
theorem dX6_holds_34 : decode cX6_holds 34 = .ok (.ireturn, 1) := by decide +kernel
theorem dX6_bestGuide_0 : decode cX6_bestGuide 0 = .ok (.aload_n 0, 1) := by decide +kernel
theorem dX6_bestGuide_1 : decode cX6_bestGuide 1 = .ok (.iload_n 1, 1) := by decide +kernel
theorem dX6_bestGuide_2 : decode cX6_bestGuide 2 = .ok (.invokevirtual 114, 3) := by decide +kernel
theorem dX6_bestGuide_5 : decode cX6_bestGuide 5 = .ok (.ifCond .eq 5, 3) := by decide +kernel
theorem dX6_bestGuide_8 : decode cX6_bestGuide 8 = .ok (.iconst (-1), 1) := by decide +kernel
theorem dX6_bestGuide_9 : decode cX6_bestGuide 9 = .ok (.ireturn, 1) := by decide +kernel
theorem dX6_bestGuide_10 : decode cX6_bestGuide 10 = .ok (.bipush (-5), 2) := by decide +kernel
theorem dX6_bestGuide_12 : decode cX6_bestGuide 12 = .ok (.istore_n 2, 1) := by decide +kernel
theorem dX6_bestGuide_13 : decode cX6_bestGuide 13 = .ok (.iconst 0, 1) := by decide +kernel
theorem dX6_bestGuide_14 : decode cX6_bestGuide 14 = .ok (.istore_n 3, 1) := by decide +kernel
theorem dX6_bestGuide_15 : decode cX6_bestGuide 15 = .ok (.iload_n 3, 1) := by decide +kernel
theorem dX6_bestGuide_16 : decode cX6_bestGuide 16 = .ok (.aload_n 0, 1) := by decide +kernel
theorem dX6_bestGuide_17 : decode cX6_bestGuide 17 = .ok (.getfield 7, 3) := by decide +kernel
theorem dX6_bestGuide_20 : decode cX6_bestGuide 20 = .ok (.iconst 1, 1) := by decide +kernel
theorem dX6_bestGuide_21 : decode cX6_bestGuide 21 = .ok (.iaload, 1) := by decide +kernel
theorem dX6_bestGuide_22 : decode cX6_bestGuide 22 = .ok (.if_icmp .ge 67, 3) := by decide +kernel
theorem dX6_bestGuide_25 : decode cX6_bestGuide 25 = .ok (.aload_n 0, 1) := by decide +kernel
theorem dX6_bestGuide_26 : decode cX6_bestGuide 26 = .ok (.iload_n 3, 1) := by decide +kernel
theorem dX6_bestGuide_27 : decode cX6_bestGuide 27 = .ok (.iload_n 1, 1) := by decide +kernel
theorem dX6_bestGuide_28 : decode cX6_bestGuide 28 = .ok (.invokevirtual 134, 3) := by decide +kernel
theorem dX6_bestGuide_31 : decode cX6_bestGuide 31 = .ok (.ifCond .eq 17, 3) := by decide +kernel
theorem dX6_bestGuide_34 : decode cX6_bestGuide 34 = .ok (.aload_n 0, 1) := by decide +kernel
theorem dX6_bestGuide_35 : decode cX6_bestGuide 35 = .ok (.iload_n 1, 1) := by decide +kernel
theorem dX6_bestGuide_36 : decode cX6_bestGuide 36 = .ok (.iconst 4, 1) := by decide +kernel
theorem dX6_bestGuide_37 : decode cX6_bestGuide 37 = .ok (.invokevirtual 41, 3) := by decide +kernel
theorem dX6_bestGuide_40 : decode cX6_bestGuide 40 = .ok (.iconst 4, 1) := by decide +kernel
theorem dX6_bestGuide_41 : decode cX6_bestGuide 41 = .ok (.if_icmp .ge 7, 3) := by decide +kernel
theorem dX6_bestGuide_44 : decode cX6_bestGuide 44 = .ok (.iconst 1, 1) := by decide +kernel
theorem dX6_bestGuide_45 : decode cX6_bestGuide 45 = .ok (.goto 4, 3) := by decide +kernel
theorem dX6_bestGuide_48 : decode cX6_bestGuide 48 = .ok (.iconst 0, 1) := by decide +kernel
theorem dX6_bestGuide_49 : decode cX6_bestGuide 49 = .ok (.istore 4, 2) := by decide +kernel
theorem dX6_bestGuide_51 : decode cX6_bestGuide 51 = .ok (.iload 4, 2) := by decide +kernel
theorem dX6_bestGuide_53 : decode cX6_bestGuide 53 = .ok (.ifCond .eq 28, 3) := by decide +kernel
theorem dX6_bestGuide_56 : decode cX6_bestGuide 56 = .ok (.iload_n 2, 1) := by decide +kernel
theorem dX6_bestGuide_57 : decode cX6_bestGuide 57 = .ok (.bipush (-5), 2) := by decide +kernel
theorem dX6_bestGuide_59 : decode cX6_bestGuide 59 = .ok (.if_icmp .eq 18, 3) := by decide +kernel
theorem dX6_bestGuide_62 : decode cX6_bestGuide 62 = .ok (.aload_n 0, 1) := by decide +kernel
theorem dX6_bestGuide_63 : decode cX6_bestGuide 63 = .ok (.iload_n 1, 1) := by decide +kernel
theorem dX6_bestGuide_64 : decode cX6_bestGuide 64 = .ok (.iload_n 3, 1) := by decide +kernel
theorem dX6_bestGuide_65 : decode cX6_bestGuide 65 = .ok (.invokevirtual 90, 3) := by decide +kernel
theorem dX6_bestGuide_68 : decode cX6_bestGuide 68 = .ok (.aload_n 0, 1) := by decide +kernel
theorem dX6_bestGuide_69 : decode cX6_bestGuide 69 = .ok (.iload_n 1, 1) := by decide +kernel
theorem dX6_bestGuide_70 : decode cX6_bestGuide 70 = .ok (.iload_n 2, 1) := by decide +kernel
theorem dX6_bestGuide_71 : decode cX6_bestGuide 71 = .ok (.invokevirtual 90, 3) := by decide +kernel
theorem dX6_bestGuide_74 : decode cX6_bestGuide 74 = .ok (.if_icmp .le 7, 3) := by decide +kernel
theorem dX6_bestGuide_77 : decode cX6_bestGuide 77 = .ok (.iload_n 3, 1) := by decide +kernel
theorem dX6_bestGuide_78 : decode cX6_bestGuide 78 = .ok (.goto 4, 3) := by decide +kernel
theorem dX6_bestGuide_81 : decode cX6_bestGuide 81 = .ok (.iload_n 2, 1) := by decide +kernel
theorem dX6_bestGuide_82 : decode cX6_bestGuide 82 = .ok (.istore_n 2, 1) := by decide +kernel
theorem dX6_bestGuide_83 : decode cX6_bestGuide 83 = .ok (.iinc 3 1, 3) := by decide +kernel
theorem dX6_bestGuide_86 : decode cX6_bestGuide 86 = .ok (.goto (-71), 3) := by decide +kernel
theorem dX6_bestGuide_89 : decode cX6_bestGuide 89 = .ok (.iload_n 2, 1) := by decide +kernel
theorem dX6_bestGuide_90 : decode cX6_bestGuide 90 = .ok (.ireturn, 1) := by decide +kernel
theorem dX6_takes_0 : decode cX6_takes 0 = .ok (.aload_n 0, 1) := by decide +kernel
theorem dX6_takes_1 : decode cX6_takes 1 = .ok (.iload_n 2, 1) := by decide +kernel
theorem dX6_takes_2 : decode cX6_takes 2 = .ok (.invokevirtual 52, 3) := by decide +kernel
theorem dX6_takes_5 : decode cX6_takes 5 = .ok (.ifCond .eq 5, 3) := by decide +kernel
theorem dX6_takes_8 : decode cX6_takes 8 = .ok (.iconst (-1), 1) := by decide +kernel
theorem dX6_takes_9 : decode cX6_takes 9 = .ok (.ireturn, 1) := by decide +kernel
theorem dX6_takes_10 : decode cX6_takes 10 = .ok (.iload_n 1, 1) := by decide +kernel
theorem dX6_takes_11 : decode cX6_takes 11 = .ok (.iconst 1, 1) := by decide +kernel
theorem dX6_takes_12 : decode cX6_takes 12 = .ok (.iconst 3, 1) := by decide +kernel
theorem dX6_takes_13 : decode cX6_takes 13 = .ok (.invokestatic 37, 3) := by decide +kernel
theorem dX6_takes_16 : decode cX6_takes 16 = .ok (.ifCond .ne 8, 3) := by decide +kernel
theorem dX6_takes_19 : decode cX6_takes 19 = .ok (.bipush (-2), 2) := by decide +kernel
theorem dX6_takes_21 : decode cX6_takes 21 = .ok (.goto 18, 3) := by decide +kernel
theorem dX6_takes_24 : decode cX6_takes 24 = .ok (.aload_n 0, 1) := by decide +kernel
theorem dX6_takes_25 : decode cX6_takes 25 = .ok (.iload_n 2, 1) := by decide +kernel
theorem dX6_takes_26 : decode cX6_takes 26 = .ok (.iconst 0, 1) := by decide +kernel
theorem dX6_takes_27 : decode cX6_takes 27 = .ok (.invokevirtual 56, 3) := by decide +kernel
theorem dX6_takes_30 : decode cX6_takes 30 = .ok (.iload_n 1, 1) := by decide +kernel
theorem dX6_takes_31 : decode cX6_takes 31 = .ok (.if_icmp .ne 7, 3) := by decide +kernel
theorem dX6_takes_34 : decode cX6_takes 34 = .ok (.iconst 1, 1) := by decide +kernel
theorem dX6_takes_35 : decode cX6_takes 35 = .ok (.goto 4, 3) := by decide +kernel
theorem dX6_takes_38 : decode cX6_takes 38 = .ok (.iconst 0, 1) := by decide +kernel
theorem dX6_takes_39 : decode cX6_takes 39 = .ok (.ireturn, 1) := by decide +kernel
theorem dX6_inState_0 : decode cX6_inState 0 = .ok (.iconst 0, 1) := by decide +kernel
theorem dX6_inState_1 : decode cX6_inState 1 = .ok (.istore_n 2, 1) := by decide +kernel
theorem dX6_inState_2 : decode cX6_inState 2 = .ok (.iconst 0, 1) := by decide +kernel
theorem dX6_inState_3 : decode cX6_inState 3 = .ok (.istore_n 3, 1) := by decide +kernel
theorem dX6_inState_4 : decode cX6_inState 4 = .ok (.iload_n 3, 1) := by decide +kernel
theorem dX6_inState_5 : decode cX6_inState 5 = .ok (.aload_n 0, 1) := by decide +kernel
theorem dX6_inState_6 : decode cX6_inState 6 = .ok (.getfield 7, 3) := by decide +kernel
theorem dX6_inState_9 : decode cX6_inState 9 = .ok (.iconst 3, 1) := by decide +kernel
theorem dX6_inState_10 : decode cX6_inState 10 = .ok (.iaload, 1) := by decide +kernel
theorem dX6_inState_11 : decode cX6_inState 11 = .ok (.if_icmp .ge 28, 3) := by decide +kernel
theorem dX6_inState_14 : decode cX6_inState 14 = .ok (.iload_n 2, 1) := by decide +kernel
theorem dX6_inState_15 : decode cX6_inState 15 = .ok (.aload_n 0, 1) := by decide +kernel
theorem dX6_inState_16 : decode cX6_inState 16 = .ok (.iload_n 3, 1) := by decide +kernel
theorem dX6_inState_17 : decode cX6_inState 17 = .ok (.bipush 6, 2) := by decide +kernel
theorem dX6_inState_19 : decode cX6_inState 19 = .ok (.invokevirtual 41, 3) := by decide +kernel
theorem dX6_inState_22 : decode cX6_inState 22 = .ok (.iload_n 1, 1) := by decide +kernel
theorem dX6_inState_23 : decode cX6_inState 23 = .ok (.if_icmp .ne 7, 3) := by decide +kernel
theorem dX6_inState_26 : decode cX6_inState 26 = .ok (.iconst 1, 1) := by decide +kernel
theorem dX6_inState_27 : decode cX6_inState 27 = .ok (.goto 4, 3) := by decide +kernel
theorem dX6_inState_30 : decode cX6_inState 30 = .ok (.iconst 0, 1) := by decide +kernel
theorem dX6_inState_31 : decode cX6_inState 31 = .ok (.iadd, 1) := by decide +kernel
theorem dX6_inState_32 : decode cX6_inState 32 = .ok (.istore_n 2, 1) := by decide +kernel
theorem dX6_inState_33 : decode cX6_inState 33 = .ok (.iinc 3 1, 3) := by decide +kernel
theorem dX6_inState_36 : decode cX6_inState 36 = .ok (.goto (-32), 3) := by decide +kernel
theorem dX6_inState_39 : decode cX6_inState 39 = .ok (.iload_n 2, 1) := by decide +kernel
theorem dX6_inState_40 : decode cX6_inState 40 = .ok (.ireturn, 1) := by decide +kernel
theorem dX6_paidAll_0 : decode cX6_paidAll 0 = .ok (.iconst 0, 1) := by decide +kernel
theorem dX6_paidAll_1 : decode cX6_paidAll 1 = .ok (.istore_n 1, 1) := by decide +kernel
theorem dX6_paidAll_2 : decode cX6_paidAll 2 = .ok (.iconst 0, 1) := by decide +kernel
theorem dX6_paidAll_3 : decode cX6_paidAll 3 = .ok (.istore_n 2, 1) := by decide +kernel
theorem dX6_paidAll_4 : decode cX6_paidAll 4 = .ok (.iload_n 2, 1) := by decide +kernel
theorem dX6_paidAll_5 : decode cX6_paidAll 5 = .ok (.aload_n 0, 1) := by decide +kernel
theorem dX6_paidAll_6 : decode cX6_paidAll 6 = .ok (.getfield 7, 3) := by decide +kernel
theorem dX6_paidAll_9 : decode cX6_paidAll 9 = .ok (.iconst 3, 1) := by decide +kernel
theorem dX6_paidAll_10 : decode cX6_paidAll 10 = .ok (.iaload, 1) := by decide +kernel
theorem dX6_paidAll_11 : decode cX6_paidAll 11 = .ok (.if_icmp .ge 18, 3) := by decide +kernel
theorem dX6_paidAll_14 : decode cX6_paidAll 14 = .ok (.iload_n 1, 1) := by decide +kernel
theorem dX6_paidAll_15 : decode cX6_paidAll 15 = .ok (.aload_n 0, 1) := by decide +kernel
theorem dX6_paidAll_16 : decode cX6_paidAll 16 = .ok (.iload_n 2, 1) := by decide +kernel
theorem dX6_paidAll_17 : decode cX6_paidAll 17 = .ok (.iconst 5, 1) := by decide +kernel
theorem dX6_paidAll_18 : decode cX6_paidAll 18 = .ok (.invokevirtual 41, 3) := by decide +kernel
theorem dX6_paidAll_21 : decode cX6_paidAll 21 = .ok (.iadd, 1) := by decide +kernel
theorem dX6_paidAll_22 : decode cX6_paidAll 22 = .ok (.istore_n 1, 1) := by decide +kernel
theorem dX6_paidAll_23 : decode cX6_paidAll 23 = .ok (.iinc 2 1, 3) := by decide +kernel
theorem dX6_paidAll_26 : decode cX6_paidAll 26 = .ok (.goto (-22), 3) := by decide +kernel
theorem dX6_paidAll_29 : decode cX6_paidAll 29 = .ok (.iload_n 1, 1) := by decide +kernel
theorem dX6_paidAll_30 : decode cX6_paidAll 30 = .ok (.ireturn, 1) := by decide +kernel
theorem dX6_goneGuests_0 : decode cX6_goneGuests 0 = .ok (.iconst 0, 1) := by decide +kernel
theorem dX6_goneGuests_1 : decode cX6_goneGuests 1 = .ok (.istore_n 1, 1) := by decide +kernel
theorem dX6_goneGuests_2 : decode cX6_goneGuests 2 = .ok (.iconst 0, 1) := by decide +kernel
theorem dX6_goneGuests_3 : decode cX6_goneGuests 3 = .ok (.istore_n 2, 1) := by decide +kernel
theorem dX6_goneGuests_4 : decode cX6_goneGuests 4 = .ok (.iload_n 2, 1) := by decide +kernel
theorem dX6_goneGuests_5 : decode cX6_goneGuests 5 = .ok (.aload_n 0, 1) := by decide +kernel
theorem dX6_goneGuests_6 : decode cX6_goneGuests 6 = .ok (.getfield 7, 3) := by decide +kernel
theorem dX6_goneGuests_9 : decode cX6_goneGuests 9 = .ok (.iconst 3, 1) := by decide +kernel
theorem dX6_goneGuests_10 : decode cX6_goneGuests 10 = .ok (.iaload, 1) := by decide +kernel
theorem dX6_goneGuests_11 : decode cX6_goneGuests 11 = .ok (.if_icmp .ge 33, 3) := by decide +kernel
theorem dX6_goneGuests_14 : decode cX6_goneGuests 14 = .ok (.iload_n 1, 1) := by decide +kernel
theorem dX6_goneGuests_15 : decode cX6_goneGuests 15 = .ok (.aload_n 0, 1) := by decide +kernel
theorem dX6_goneGuests_16 : decode cX6_goneGuests 16 = .ok (.iload_n 2, 1) := by decide +kernel
theorem dX6_goneGuests_17 : decode cX6_goneGuests 17 = .ok (.bipush 6, 2) := by decide +kernel
theorem dX6_goneGuests_19 : decode cX6_goneGuests 19 = .ok (.invokevirtual 41, 3) := by decide +kernel
theorem dX6_goneGuests_22 : decode cX6_goneGuests 22 = .ok (.iconst 1, 1) := by decide +kernel
theorem dX6_goneGuests_23 : decode cX6_goneGuests 23 = .ok (.if_icmp .ne 12, 3) := by decide +kernel
theorem dX6_goneGuests_26 : decode cX6_goneGuests 26 = .ok (.aload_n 0, 1) := by decide +kernel
theorem dX6_goneGuests_27 : decode cX6_goneGuests 27 = .ok (.iload_n 2, 1) := by decide +kernel
theorem dX6_goneGuests_28 : decode cX6_goneGuests 28 = .ok (.iconst 3, 1) := by decide +kernel
theorem dX6_goneGuests_29 : decode cX6_goneGuests 29 = .ok (.invokevirtual 41, 3) := by decide +kernel
theorem dX6_goneGuests_32 : decode cX6_goneGuests 32 = .ok (.goto 4, 3) := by decide +kernel
theorem dX6_goneGuests_35 : decode cX6_goneGuests 35 = .ok (.iconst 0, 1) := by decide +kernel
theorem dX6_goneGuests_36 : decode cX6_goneGuests 36 = .ok (.iadd, 1) := by decide +kernel
theorem dX6_goneGuests_37 : decode cX6_goneGuests 37 = .ok (.istore_n 1, 1) := by decide +kernel
theorem dX6_goneGuests_38 : decode cX6_goneGuests 38 = .ok (.iinc 2 1, 3) := by decide +kernel
theorem dX6_goneGuests_41 : decode cX6_goneGuests 41 = .ok (.goto (-37), 3) := by decide +kernel
theorem dX6_goneGuests_44 : decode cX6_goneGuests 44 = .ok (.iload_n 1, 1) := by decide +kernel
theorem dX6_goneGuests_45 : decode cX6_goneGuests 45 = .ok (.ireturn, 1) := by decide +kernel
theorem dX6_count_0 : decode cX6_count 0 = .ok (.iload_n 1, 1) := by decide +kernel
theorem dX6_count_1 : decode cX6_count 1 = .ok (.tableswitch 109 0 12 #[67, 67, 67, 67, 74, 74, 74, 74, 82, 87, 94, 99, 104], 67) := by decide +kernel
theorem dX6_count_68 : decode cX6_count 68 = .ok (.aload_n 0, 1) := by decide +kernel
theorem dX6_count_69 : decode cX6_count 69 = .ok (.getfield 7, 3) := by decide +kernel
theorem dX6_count_72 : decode cX6_count 72 = .ok (.iload_n 1, 1) := by decide +kernel
theorem dX6_count_73 : decode cX6_count 73 = .ok (.iaload, 1) := by decide +kernel
theorem dX6_count_74 : decode cX6_count 74 = .ok (.ireturn, 1) := by decide +kernel
theorem dX6_count_75 : decode cX6_count 75 = .ok (.aload_n 0, 1) := by decide +kernel
theorem dX6_count_76 : decode cX6_count 76 = .ok (.iload_n 1, 1) := by decide +kernel
theorem dX6_count_77 : decode cX6_count 77 = .ok (.iconst 4, 1) := by decide +kernel
theorem dX6_count_78 : decode cX6_count 78 = .ok (.isub, 1) := by decide +kernel
theorem dX6_count_79 : decode cX6_count 79 = .ok (.invokevirtual 215, 3) := by decide +kernel
theorem dX6_count_82 : decode cX6_count 82 = .ok (.ireturn, 1) := by decide +kernel
theorem dX6_count_83 : decode cX6_count 83 = .ok (.aload_n 0, 1) := by decide +kernel
theorem dX6_count_84 : decode cX6_count 84 = .ok (.invokevirtual 218, 3) := by decide +kernel
theorem dX6_count_87 : decode cX6_count 87 = .ok (.ireturn, 1) := by decide +kernel
theorem dX6_count_88 : decode cX6_count 88 = .ok (.aload_n 0, 1) := by decide +kernel
theorem dX6_count_89 : decode cX6_count 89 = .ok (.getfield 7, 3) := by decide +kernel
theorem dX6_count_92 : decode cX6_count 92 = .ok (.iconst 4, 1) := by decide +kernel
theorem dX6_count_93 : decode cX6_count 93 = .ok (.iaload, 1) := by decide +kernel
theorem dX6_count_94 : decode cX6_count 94 = .ok (.ireturn, 1) := by decide +kernel
theorem dX6_count_95 : decode cX6_count 95 = .ok (.aload_n 0, 1) := by decide +kernel
theorem dX6_count_96 : decode cX6_count 96 = .ok (.invokevirtual 221, 3) := by decide +kernel
theorem dX6_count_99 : decode cX6_count 99 = .ok (.ireturn, 1) := by decide +kernel
theorem dX6_count_100 : decode cX6_count 100 = .ok (.aload_n 0, 1) := by decide +kernel
theorem dX6_count_101 : decode cX6_count 101 = .ok (.getfield 33, 3) := by decide +kernel
theorem dX6_count_104 : decode cX6_count 104 = .ok (.ireturn, 1) := by decide +kernel
theorem dX6_count_105 : decode cX6_count 105 = .ok (.aload_n 0, 1) := by decide +kernel
theorem dX6_count_106 : decode cX6_count 106 = .ok (.getfield 162, 3) := by decide +kernel
theorem dX6_count_109 : decode cX6_count 109 = .ok (.ireturn, 1) := by decide +kernel
theorem dX6_count_110 : decode cX6_count 110 = .ok (.bipush (-2), 2) := by decide +kernel
theorem dX6_count_112 : decode cX6_count 112 = .ok (.ireturn, 1) := by decide +kernel
theorem dX6_temperature_0 : decode cX6_temperature 0 = .ok (.aload_n 0, 1) := by decide +kernel
theorem dX6_temperature_1 : decode cX6_temperature 1 = .ok (.getfield 19, 3) := by decide +kernel
theorem dX6_temperature_4 : decode cX6_temperature 4 = .ok (.iconst 0, 1) := by decide +kernel
theorem dX6_temperature_5 : decode cX6_temperature 5 = .ok (.daload, 1) := by decide +kernel
theorem dX6_temperature_6 : decode cX6_temperature 6 = .ok (.invokestatic 224, 3) := by decide +kernel
theorem dX6_temperature_9 : decode cX6_temperature 9 = .ok (.lreturn, 1) := by decide +kernel
theorem dJxe99ae_isNaN_b9ae7_0 : decode cJxe99ae_isNaN_b9ae7 0 = .ok (.dload_n 0, 1) := by decide +kernel
theorem dJxe99ae_isNaN_b9ae7_1 : decode cJxe99ae_isNaN_b9ae7 1 = .ok (.dload_n 0, 1) := by decide +kernel
theorem dJxe99ae_isNaN_b9ae7_2 : decode cJxe99ae_isNaN_b9ae7 2 = .ok (.dcmp .l, 1) := by decide +kernel
theorem dJxe99ae_isNaN_b9ae7_3 : decode cJxe99ae_isNaN_b9ae7 3 = .ok (.ifCond .eq 7, 3) := by decide +kernel
theorem dJxe99ae_isNaN_b9ae7_6 : decode cJxe99ae_isNaN_b9ae7 6 = .ok (.iconst 1, 1) := by decide +kernel
theorem dJxe99ae_isNaN_b9ae7_7 : decode cJxe99ae_isNaN_b9ae7 7 = .ok (.goto 4, 3) := by decide +kernel
theorem dJxe99ae_isNaN_b9ae7_10 : decode cJxe99ae_isNaN_b9ae7 10 = .ok (.iconst 0, 1) := by decide +kernel
theorem dJxe99ae_isNaN_b9ae7_11 : decode cJxe99ae_isNaN_b9ae7 11 = .ok (.ireturn, 1) := by decide +kernel
theorem dJxe99ae_doubleToLongBits_ccdee_0 : decode cJxe99ae_doubleToLongBits_ccdee 0 = .ok (.dload_n 0, 1) := by decide +kernel
theorem dJxe99ae_doubleToLongBits_ccdee_1 : decode cJxe99ae_doubleToLongBits_ccdee 1 = .ok (.invokestatic 122, 3) := by decide +kernel
theorem dJxe99ae_doubleToLongBits_ccdee_4 : decode cJxe99ae_doubleToLongBits_ccdee 4 = .ok (.ifCond .ne 8, 3) := by decide +kernel
theorem dJxe99ae_doubleToLongBits_ccdee_7 : decode cJxe99ae_doubleToLongBits_ccdee 7 = .ok (.dload_n 0, 1) := by decide +kernel
theorem dJxe99ae_doubleToLongBits_ccdee_8 : decode cJxe99ae_doubleToLongBits_ccdee 8 = .ok (.invokestatic 134, 3) := by decide +kernel
theorem dJxe99ae_doubleToLongBits_ccdee_11 : decode cJxe99ae_doubleToLongBits_ccdee 11 = .ok (.lreturn, 1) := by decide +kernel
theorem dJxe99ae_doubleToLongBits_ccdee_12 : decode cJxe99ae_doubleToLongBits_ccdee 12 = .ok (.ldc2_w 137, 3) := by decide +kernel
theorem dJxe99ae_doubleToLongBits_ccdee_15 : decode cJxe99ae_doubleToLongBits_ccdee 15 = .ok (.lreturn, 1) := by decide +kernel
theorem dJ0_length_8abf5_0 : decode cJ0_length_8abf5 0 = .ok (.aload_n 0, 1) := by decide +kernel
theorem dJ0_length_8abf5_1 : decode cJ0_length_8abf5 1 = .ok (.getfield 9, 3) := by decide +kernel
theorem dJ0_length_8abf5_4 : decode cJ0_length_8abf5 4 = .ok (.arraylength, 1) := by decide +kernel
theorem dJ0_length_8abf5_5 : decode cJ0_length_8abf5 5 = .ok (.aload_n 0, 1) := by decide +kernel
theorem dJ0_length_8abf5_6 : decode cJ0_length_8abf5 6 = .ok (.invokevirtual 335, 3) := by decide +kernel
theorem dJ0_length_8abf5_9 : decode cJ0_length_8abf5 9 = .ok (.ishr, 1) := by decide +kernel
theorem dJ0_length_8abf5_10 : decode cJ0_length_8abf5 10 = .ok (.ireturn, 1) := by decide +kernel
theorem dJ0_charAt_5068e_0 : decode cJ0_charAt_5068e 0 = .ok (.aload_n 0, 1) := by decide +kernel
theorem dJ0_charAt_5068e_1 : decode cJ0_charAt_5068e 1 = .ok (.invokevirtual 492, 3) := by decide +kernel
theorem dJ0_charAt_5068e_4 : decode cJ0_charAt_5068e 4 = .ok (.ifCond .eq 12, 3) := by decide +kernel
theorem dJ0_charAt_5068e_7 : decode cJ0_charAt_5068e 7 = .ok (.aload_n 0, 1) := by decide +kernel
theorem dJ0_charAt_5068e_8 : decode cJ0_charAt_5068e 8 = .ok (.getfield 9, 3) := by decide +kernel
theorem dJ0_charAt_5068e_11 : decode cJ0_charAt_5068e 11 = .ok (.iload_n 1, 1) := by decide +kernel
theorem dJ0_charAt_5068e_12 : decode cJ0_charAt_5068e 12 = .ok (.invokestatic 495, 3) := by decide +kernel
theorem dJ0_charAt_5068e_15 : decode cJ0_charAt_5068e 15 = .ok (.ireturn, 1) := by decide +kernel
theorem dJ0_charAt_5068e_16 : decode cJ0_charAt_5068e 16 = .ok (.aload_n 0, 1) := by decide +kernel
theorem dJ0_charAt_5068e_17 : decode cJ0_charAt_5068e 17 = .ok (.getfield 9, 3) := by decide +kernel
theorem dJ0_charAt_5068e_20 : decode cJ0_charAt_5068e 20 = .ok (.iload_n 1, 1) := by decide +kernel
theorem dJ0_charAt_5068e_21 : decode cJ0_charAt_5068e 21 = .ok (.invokestatic 498, 3) := by decide +kernel
theorem dJ0_charAt_5068e_24 : decode cJ0_charAt_5068e 24 = .ok (.ireturn, 1) := by decide +kernel
theorem dJ0_coder_7d493_0 : decode cJ0_coder_7d493 0 = .ok (.getstatic 38, 3) := by decide +kernel
theorem dJ0_coder_7d493_3 : decode cJ0_coder_7d493 3 = .ok (.ifCond .eq 10, 3) := by decide +kernel
theorem dJ0_coder_7d493_6 : decode cJ0_coder_7d493 6 = .ok (.aload_n 0, 1) := by decide +kernel
theorem dJ0_coder_7d493_7 : decode cJ0_coder_7d493 7 = .ok (.getfield 15, 3) := by decide +kernel
theorem dJ0_coder_7d493_10 : decode cJ0_coder_7d493 10 = .ok (.goto 4, 3) := by decide +kernel
theorem dJ0_coder_7d493_13 : decode cJ0_coder_7d493 13 = .ok (.iconst 1, 1) := by decide +kernel
theorem dJ0_coder_7d493_14 : decode cJ0_coder_7d493 14 = .ok (.ireturn, 1) := by decide +kernel
theorem dJ0_isLatin1_aae02_0 : decode cJ0_isLatin1_aae02 0 = .ok (.getstatic 38, 3) := by decide +kernel
theorem dJ0_isLatin1_aae02_3 : decode cJ0_isLatin1_aae02 3 = .ok (.ifCond .eq 14, 3) := by decide +kernel
theorem dJ0_isLatin1_aae02_6 : decode cJ0_isLatin1_aae02 6 = .ok (.aload_n 0, 1) := by decide +kernel
theorem dJ0_isLatin1_aae02_7 : decode cJ0_isLatin1_aae02 7 = .ok (.getfield 15, 3) := by decide +kernel
theorem dJ0_isLatin1_aae02_10 : decode cJ0_isLatin1_aae02 10 = .ok (.ifCond .ne 7, 3) := by decide +kernel
theorem dJ0_isLatin1_aae02_13 : decode cJ0_isLatin1_aae02 13 = .ok (.iconst 1, 1) := by decide +kernel
theorem dJ0_isLatin1_aae02_14 : decode cJ0_isLatin1_aae02 14 = .ok (.goto 4, 3) := by decide +kernel
theorem dJ0_isLatin1_aae02_17 : decode cJ0_isLatin1_aae02 17 = .ok (.iconst 0, 1) := by decide +kernel
theorem dJ0_isLatin1_aae02_18 : decode cJ0_isLatin1_aae02 18 = .ok (.ireturn, 1) := by decide +kernel
theorem dJ0_checkIndex_df160_0 : decode cJ0_checkIndex_df160 0 = .ok (.iload_n 0, 1) := by decide +kernel
theorem dJ0_checkIndex_df160_1 : decode cJ0_checkIndex_df160 1 = .ok (.iload_n 1, 1) := by decide +kernel
theorem dJ0_checkIndex_df160_2 : decode cJ0_checkIndex_df160 2 = .ok (.getstatic 1053, 3) := by decide +kernel
theorem dJ0_checkIndex_df160_5 : decode cJ0_checkIndex_df160 5 = .ok (.invokestatic 1059, 3) := by decide +kernel
theorem dJ0_checkIndex_df160_8 : decode cJ0_checkIndex_df160 8 = .ok (.pop, 1) := by decide +kernel
theorem dJ0_checkIndex_df160_9 : decode cJ0_checkIndex_df160 9 = .ok (.return_, 1) := by decide +kernel
theorem dJ1_charAt_3b067_0 : decode cJ1_charAt_3b067 0 = .ok (.iload_n 1, 1) := by decide +kernel
theorem dJ1_charAt_3b067_1 : decode cJ1_charAt_3b067 1 = .ok (.aload_n 0, 1) := by decide +kernel
theorem dJ1_charAt_3b067_2 : decode cJ1_charAt_3b067 2 = .ok (.arraylength, 1) := by decide +kernel
theorem dJ1_charAt_3b067_3 : decode cJ1_charAt_3b067 3 = .ok (.invokestatic 9, 3) := by decide +kernel
theorem dJ1_charAt_3b067_6 : decode cJ1_charAt_3b067 6 = .ok (.aload_n 0, 1) := by decide +kernel
theorem dJ1_charAt_3b067_7 : decode cJ1_charAt_3b067 7 = .ok (.iload_n 1, 1) := by decide +kernel
theorem dJ1_charAt_3b067_8 : decode cJ1_charAt_3b067 8 = .ok (.baload, 1) := by decide +kernel
theorem dJ1_charAt_3b067_9 : decode cJ1_charAt_3b067 9 = .ok (.sipush 255, 3) := by decide +kernel
theorem dJ1_charAt_3b067_12 : decode cJ1_charAt_3b067 12 = .ok (.iand, 1) := by decide +kernel
theorem dJ1_charAt_3b067_13 : decode cJ1_charAt_3b067 13 = .ok (.i2c, 1) := by decide +kernel
theorem dJ1_charAt_3b067_14 : decode cJ1_charAt_3b067 14 = .ok (.ireturn, 1) := by decide +kernel
theorem dJ2_getChar_3b067_0 : decode cJ2_getChar_3b067 0 = .ok (.getstatic 44, 3) := by decide +kernel
theorem dJ2_getChar_3b067_3 : decode cJ2_getChar_3b067 3 = .ok (.ifCond .ne 25, 3) := by decide +kernel
theorem dJ2_getChar_3b067_6 : decode cJ2_getChar_3b067 6 = .ok (.iload_n 1, 1) := by decide +kernel
theorem dJ2_getChar_3b067_7 : decode cJ2_getChar_3b067 7 = .ok (.ifCond .lt 11, 3) := by decide +kernel
theorem dJ2_getChar_3b067_10 : decode cJ2_getChar_3b067 10 = .ok (.iload_n 1, 1) := by decide +kernel
theorem dJ2_getChar_3b067_11 : decode cJ2_getChar_3b067 11 = .ok (.aload_n 0, 1) := by decide +kernel
theorem dJ2_getChar_3b067_12 : decode cJ2_getChar_3b067 12 = .ok (.invokestatic 48, 3) := by decide +kernel
theorem dJ2_getChar_3b067_15 : decode cJ2_getChar_3b067 15 = .ok (.if_icmp .lt 13, 3) := by decide +kernel
theorem dJ2_getChar_3b067_18 : decode cJ2_getChar_3b067 18 = .ok (.new 52, 3) := by decide +kernel
theorem dJ2_getChar_3b067_21 : decode cJ2_getChar_3b067 21 = .ok (.dup, 1) := by decide +kernel
theorem dJ2_getChar_3b067_22 : decode cJ2_getChar_3b067 22 = .ok (.ldc 54, 2) := by decide +kernel
theorem dJ2_getChar_3b067_24 : decode cJ2_getChar_3b067 24 = .ok (.invokespecial 56, 3) := by decide +kernel
theorem dJ2_getChar_3b067_27 : decode cJ2_getChar_3b067 27 = .ok (.athrow, 1) := by decide +kernel
theorem dJ2_getChar_3b067_28 : decode cJ2_getChar_3b067 28 = .ok (.iload_n 1, 1) := by decide +kernel
theorem dJ2_getChar_3b067_29 : decode cJ2_getChar_3b067 29 = .ok (.iconst 1, 1) := by decide +kernel
theorem dJ2_getChar_3b067_30 : decode cJ2_getChar_3b067 30 = .ok (.ishl, 1) := by decide +kernel
theorem dJ2_getChar_3b067_31 : decode cJ2_getChar_3b067 31 = .ok (.istore_n 1, 1) := by decide +kernel
theorem dJ2_getChar_3b067_32 : decode cJ2_getChar_3b067 32 = .ok (.aload_n 0, 1) := by decide +kernel
theorem dJ2_getChar_3b067_33 : decode cJ2_getChar_3b067 33 = .ok (.iload_n 1, 1) := by decide +kernel
theorem dJ2_getChar_3b067_34 : decode cJ2_getChar_3b067 34 = .ok (.iinc 1 1, 3) := by decide +kernel
theorem dJ2_getChar_3b067_37 : decode cJ2_getChar_3b067 37 = .ok (.baload, 1) := by decide +kernel
theorem dJ2_getChar_3b067_38 : decode cJ2_getChar_3b067 38 = .ok (.sipush 255, 3) := by decide +kernel
theorem dJ2_getChar_3b067_41 : decode cJ2_getChar_3b067 41 = .ok (.iand, 1) := by decide +kernel
theorem dJ2_getChar_3b067_42 : decode cJ2_getChar_3b067 42 = .ok (.getstatic 59, 3) := by decide +kernel
theorem dJ2_getChar_3b067_45 : decode cJ2_getChar_3b067 45 = .ok (.ishl, 1) := by decide +kernel
theorem dJ2_getChar_3b067_46 : decode cJ2_getChar_3b067 46 = .ok (.aload_n 0, 1) := by decide +kernel
theorem dJ2_getChar_3b067_47 : decode cJ2_getChar_3b067 47 = .ok (.iload_n 1, 1) := by decide +kernel
theorem dJ2_getChar_3b067_48 : decode cJ2_getChar_3b067 48 = .ok (.baload, 1) := by decide +kernel
theorem dJ2_getChar_3b067_49 : decode cJ2_getChar_3b067 49 = .ok (.sipush 255, 3) := by decide +kernel
theorem dJ2_getChar_3b067_52 : decode cJ2_getChar_3b067 52 = .ok (.iand, 1) := by decide +kernel
theorem dJ2_getChar_3b067_53 : decode cJ2_getChar_3b067 53 = .ok (.getstatic 63, 3) := by decide +kernel
theorem dJ2_getChar_3b067_56 : decode cJ2_getChar_3b067 56 = .ok (.ishl, 1) := by decide +kernel
theorem dJ2_getChar_3b067_57 : decode cJ2_getChar_3b067 57 = .ok (.ior, 1) := by decide +kernel
theorem dJ2_getChar_3b067_58 : decode cJ2_getChar_3b067 58 = .ok (.i2c, 1) := by decide +kernel
theorem dJ2_getChar_3b067_59 : decode cJ2_getChar_3b067 59 = .ok (.ireturn, 1) := by decide +kernel
theorem dJ2_length_9d52b_0 : decode cJ2_length_9d52b 0 = .ok (.aload_n 0, 1) := by decide +kernel
theorem dJ2_length_9d52b_1 : decode cJ2_length_9d52b 1 = .ok (.arraylength, 1) := by decide +kernel
theorem dJ2_length_9d52b_2 : decode cJ2_length_9d52b 2 = .ok (.iconst 1, 1) := by decide +kernel
theorem dJ2_length_9d52b_3 : decode cJ2_length_9d52b 3 = .ok (.ishr, 1) := by decide +kernel
theorem dJ2_length_9d52b_4 : decode cJ2_length_9d52b 4 = .ok (.ireturn, 1) := by decide +kernel
theorem dJ2_charAt_3b067_0 : decode cJ2_charAt_3b067 0 = .ok (.iload_n 1, 1) := by decide +kernel
theorem dJ2_charAt_3b067_1 : decode cJ2_charAt_3b067 1 = .ok (.aload_n 0, 1) := by decide +kernel
theorem dJ2_charAt_3b067_2 : decode cJ2_charAt_3b067 2 = .ok (.invokestatic 67, 3) := by decide +kernel
theorem dJ2_charAt_3b067_5 : decode cJ2_charAt_3b067 5 = .ok (.aload_n 0, 1) := by decide +kernel
theorem dJ2_charAt_3b067_6 : decode cJ2_charAt_3b067 6 = .ok (.iload_n 1, 1) := by decide +kernel
theorem dJ2_charAt_3b067_7 : decode cJ2_charAt_3b067 7 = .ok (.invokestatic 71, 3) := by decide +kernel
theorem dJ2_charAt_3b067_10 : decode cJ2_charAt_3b067 10 = .ok (.ireturn, 1) := by decide +kernel
theorem dJ2_checkIndex_2214a_0 : decode cJ2_checkIndex_2214a 0 = .ok (.iload_n 0, 1) := by decide +kernel
theorem dJ2_checkIndex_2214a_1 : decode cJ2_checkIndex_2214a 1 = .ok (.aload_n 1, 1) := by decide +kernel
theorem dJ2_checkIndex_2214a_2 : decode cJ2_checkIndex_2214a 2 = .ok (.invokestatic 48, 3) := by decide +kernel
theorem dJ2_checkIndex_2214a_5 : decode cJ2_checkIndex_2214a 5 = .ok (.invokestatic 414, 3) := by decide +kernel
theorem dJ2_checkIndex_2214a_8 : decode cJ2_checkIndex_2214a 8 = .ok (.return_, 1) := by decide +kernel
theorem dJ3_checkIndex_8e157_0 : decode cJ3_checkIndex_8e157 0 = .ok (.iload_n 0, 1) := by decide +kernel
theorem dJ3_checkIndex_8e157_1 : decode cJ3_checkIndex_8e157 1 = .ok (.ifCond .lt 8, 3) := by decide +kernel
theorem dJ3_checkIndex_8e157_4 : decode cJ3_checkIndex_8e157 4 = .ok (.iload_n 0, 1) := by decide +kernel
theorem dJ3_checkIndex_8e157_5 : decode cJ3_checkIndex_8e157 5 = .ok (.iload_n 1, 1) := by decide +kernel
theorem dJ3_checkIndex_8e157_6 : decode cJ3_checkIndex_8e157 6 = .ok (.if_icmp .lt 10, 3) := by decide +kernel
theorem dJ3_checkIndex_8e157_9 : decode cJ3_checkIndex_8e157 9 = .ok (.aload_n 2, 1) := by decide +kernel
theorem dJ3_checkIndex_8e157_10 : decode cJ3_checkIndex_8e157 10 = .ok (.iload_n 0, 1) := by decide +kernel
theorem dJ3_checkIndex_8e157_11 : decode cJ3_checkIndex_8e157 11 = .ok (.iload_n 1, 1) := by decide +kernel
theorem dJ3_checkIndex_8e157_12 : decode cJ3_checkIndex_8e157 12 = .ok (.invokestatic 95, 3) := by decide +kernel
theorem dJ3_checkIndex_8e157_15 : decode cJ3_checkIndex_8e157 15 = .ok (.athrow, 1) := by decide +kernel
theorem dJ3_checkIndex_8e157_16 : decode cJ3_checkIndex_8e157 16 = .ok (.iload_n 0, 1) := by decide +kernel
theorem dJ3_checkIndex_8e157_17 : decode cJ3_checkIndex_8e157 17 = .ok (.ireturn, 1) := by decide +kernel
theorem dL_law_0 : decode cL_law 0 = .ok (.new 7, 3) := by decide +kernel
theorem dL_law_3 : decode cL_law 3 = .ok (.dup, 1) := by decide +kernel
theorem dL_law_4 : decode cL_law 4 = .ok (.invokespecial 9, 3) := by decide +kernel
theorem dL_law_7 : decode cL_law 7 = .ok (.astore_n 1, 1) := by decide +kernel
theorem dL_law_8 : decode cL_law 8 = .ok (.new 10, 3) := by decide +kernel
theorem dL_law_11 : decode cL_law 11 = .ok (.dup, 1) := by decide +kernel
theorem dL_law_12 : decode cL_law 12 = .ok (.invokespecial 12, 3) := by decide +kernel
theorem dL_law_15 : decode cL_law 15 = .ok (.astore_n 2, 1) := by decide +kernel
theorem dL_law_16 : decode cL_law 16 = .ok (.iconst 0, 1) := by decide +kernel
theorem dL_law_17 : decode cL_law 17 = .ok (.istore_n 3, 1) := by decide +kernel
theorem dL_law_18 : decode cL_law 18 = .ok (.iload_n 3, 1) := by decide +kernel
theorem dL_law_19 : decode cL_law 19 = .ok (.aload_n 0, 1) := by decide +kernel
theorem dL_law_20 : decode cL_law 20 = .ok (.arraylength, 1) := by decide +kernel
theorem dL_law_21 : decode cL_law 21 = .ok (.bipush 6, 2) := by decide +kernel
theorem dL_law_23 : decode cL_law 23 = .ok (.isub, 1) := by decide +kernel
theorem dL_law_24 : decode cL_law 24 = .ok (.if_icmp .gt 1110, 3) := by decide +kernel
theorem dL_law_27 : decode cL_law 27 = .ok (.aload_n 0, 1) := by decide +kernel
theorem dL_law_28 : decode cL_law 28 = .ok (.iload_n 3, 1) := by decide +kernel
theorem dL_law_29 : decode cL_law 29 = .ok (.iaload, 1) := by decide +kernel
theorem dL_law_30 : decode cL_law 30 = .ok (.bipush 31, 2) := by decide +kernel
theorem dL_law_32 : decode cL_law 32 = .ok (.iand, 1) := by decide +kernel
theorem dL_law_33 : decode cL_law 33 = .ok (.tableswitch 1095 0 28 #[131, 164, 207, 260, 313, 396, 429, 462, 495, 528, 561, 584, 607, 632, 645, 658, 671, 684, 697, 730, 763, 806, 857, 918, 969, 1002, 1025, 1058, 1081], 131) := by decide +kernel
theorem dL_law_164 : decode cL_law 164 = .ok (.aload_n 1, 1) := by decide +kernel
theorem dL_law_165 : decode cL_law 165 = .ok (.aload_n 0, 1) := by decide +kernel
theorem dL_law_166 : decode cL_law 166 = .ok (.iload_n 3, 1) := by decide +kernel
theorem dL_law_167 : decode cL_law 167 = .ok (.iconst 1, 1) := by decide +kernel
theorem dL_law_168 : decode cL_law 168 = .ok (.iadd, 1) := by decide +kernel
theorem dL_law_169 : decode cL_law 169 = .ok (.iaload, 1) := by decide +kernel
theorem dL_law_170 : decode cL_law 170 = .ok (.aload_n 0, 1) := by decide +kernel
theorem dL_law_171 : decode cL_law 171 = .ok (.iload_n 3, 1) := by decide +kernel
theorem dL_law_172 : decode cL_law 172 = .ok (.iconst 2, 1) := by decide +kernel
theorem dL_law_173 : decode cL_law 173 = .ok (.iadd, 1) := by decide +kernel
theorem dL_law_174 : decode cL_law 174 = .ok (.iaload, 1) := by decide +kernel
theorem dL_law_175 : decode cL_law 175 = .ok (.invokevirtual 13, 3) := by decide +kernel
theorem dL_law_178 : decode cL_law 178 = .ok (.aload_n 2, 1) := by decide +kernel
theorem dL_law_179 : decode cL_law 179 = .ok (.aload_n 0, 1) := by decide +kernel
theorem dL_law_180 : decode cL_law 180 = .ok (.iload_n 3, 1) := by decide +kernel
theorem dL_law_181 : decode cL_law 181 = .ok (.iconst 1, 1) := by decide +kernel
theorem dL_law_182 : decode cL_law 182 = .ok (.iadd, 1) := by decide +kernel
theorem dL_law_183 : decode cL_law 183 = .ok (.iaload, 1) := by decide +kernel
theorem dL_law_184 : decode cL_law 184 = .ok (.aload_n 0, 1) := by decide +kernel
theorem dL_law_185 : decode cL_law 185 = .ok (.iload_n 3, 1) := by decide +kernel
theorem dL_law_186 : decode cL_law 186 = .ok (.iconst 2, 1) := by decide +kernel
theorem dL_law_187 : decode cL_law 187 = .ok (.iadd, 1) := by decide +kernel
theorem dL_law_188 : decode cL_law 188 = .ok (.iaload, 1) := by decide +kernel
theorem dL_law_189 : decode cL_law 189 = .ok (.invokevirtual 17, 3) := by decide +kernel
theorem dL_law_192 : decode cL_law 192 = .ok (.if_icmp .eq 936, 3) := by decide +kernel
theorem dL_law_195 : decode cL_law 195 = .ok (.iconst 0, 1) := by decide +kernel
theorem dL_law_196 : decode cL_law 196 = .ok (.ireturn, 1) := by decide +kernel
theorem dL_law_197 : decode cL_law 197 = .ok (.aload_n 1, 1) := by decide +kernel
theorem dL_law_198 : decode cL_law 198 = .ok (.aload_n 0, 1) := by decide +kernel
theorem dL_law_199 : decode cL_law 199 = .ok (.iload_n 3, 1) := by decide +kernel
theorem dL_law_200 : decode cL_law 200 = .ok (.iconst 1, 1) := by decide +kernel
theorem dL_law_201 : decode cL_law 201 = .ok (.iadd, 1) := by decide +kernel
theorem dL_law_202 : decode cL_law 202 = .ok (.iaload, 1) := by decide +kernel
theorem dL_law_203 : decode cL_law 203 = .ok (.aload_n 0, 1) := by decide +kernel
theorem dL_law_204 : decode cL_law 204 = .ok (.iload_n 3, 1) := by decide +kernel
theorem dL_law_205 : decode cL_law 205 = .ok (.iconst 2, 1) := by decide +kernel
theorem dL_law_206 : decode cL_law 206 = .ok (.iadd, 1) := by decide +kernel
theorem dL_law_207 : decode cL_law 207 = .ok (.iaload, 1) := by decide +kernel
theorem dL_law_208 : decode cL_law 208 = .ok (.aload_n 0, 1) := by decide +kernel
theorem dL_law_209 : decode cL_law 209 = .ok (.iload_n 3, 1) := by decide +kernel
theorem dL_law_210 : decode cL_law 210 = .ok (.iconst 3, 1) := by decide +kernel
theorem dL_law_211 : decode cL_law 211 = .ok (.iadd, 1) := by decide +kernel
theorem dL_law_212 : decode cL_law 212 = .ok (.iaload, 1) := by decide +kernel
theorem dL_law_213 : decode cL_law 213 = .ok (.invokevirtual 18, 3) := by decide +kernel
theorem dL_law_216 : decode cL_law 216 = .ok (.aload_n 2, 1) := by decide +kernel
theorem dL_law_217 : decode cL_law 217 = .ok (.aload_n 0, 1) := by decide +kernel
theorem dL_law_218 : decode cL_law 218 = .ok (.iload_n 3, 1) := by decide +kernel
theorem dL_law_219 : decode cL_law 219 = .ok (.iconst 1, 1) := by decide +kernel
theorem dL_law_220 : decode cL_law 220 = .ok (.iadd, 1) := by decide +kernel
theorem dL_law_221 : decode cL_law 221 = .ok (.iaload, 1) := by decide +kernel
theorem dL_law_222 : decode cL_law 222 = .ok (.aload_n 0, 1) := by decide +kernel
theorem dL_law_223 : decode cL_law 223 = .ok (.iload_n 3, 1) := by decide +kernel
theorem dL_law_224 : decode cL_law 224 = .ok (.iconst 2, 1) := by decide +kernel
theorem dL_law_225 : decode cL_law 225 = .ok (.iadd, 1) := by decide +kernel
theorem dL_law_226 : decode cL_law 226 = .ok (.iaload, 1) := by decide +kernel
theorem dL_law_227 : decode cL_law 227 = .ok (.aload_n 0, 1) := by decide +kernel
theorem dL_law_228 : decode cL_law 228 = .ok (.iload_n 3, 1) := by decide +kernel
theorem dL_law_229 : decode cL_law 229 = .ok (.iconst 3, 1) := by decide +kernel
theorem dL_law_230 : decode cL_law 230 = .ok (.iadd, 1) := by decide +kernel
theorem dL_law_231 : decode cL_law 231 = .ok (.iaload, 1) := by decide +kernel
theorem dL_law_232 : decode cL_law 232 = .ok (.invokevirtual 22, 3) := by decide +kernel
theorem dL_law_235 : decode cL_law 235 = .ok (.if_icmp .eq 893, 3) := by decide +kernel
theorem dL_law_238 : decode cL_law 238 = .ok (.iconst 0, 1) := by decide +kernel
theorem dL_law_239 : decode cL_law 239 = .ok (.ireturn, 1) := by decide +kernel
theorem dL_law_240 : decode cL_law 240 = .ok (.aload_n 1, 1) := by decide +kernel
theorem dL_law_241 : decode cL_law 241 = .ok (.aload_n 0, 1) := by decide +kernel
theorem dL_law_242 : decode cL_law 242 = .ok (.iload_n 3, 1) := by decide +kernel
theorem dL_law_243 : decode cL_law 243 = .ok (.iconst 1, 1) := by decide +kernel
theorem dL_law_244 : decode cL_law 244 = .ok (.iadd, 1) := by decide +kernel
theorem dL_law_245 : decode cL_law 245 = .ok (.iaload, 1) := by decide +kernel
theorem dL_law_246 : decode cL_law 246 = .ok (.i2l, 1) := by decide +kernel
theorem dL_law_247 : decode cL_law 247 = .ok (.bipush 32, 2) := by decide +kernel
theorem dL_law_249 : decode cL_law 249 = .ok (.lshl, 1) := by decide +kernel
theorem dL_law_250 : decode cL_law 250 = .ok (.aload_n 0, 1) := by decide +kernel
theorem dL_law_251 : decode cL_law 251 = .ok (.iload_n 3, 1) := by decide +kernel
theorem dL_law_252 : decode cL_law 252 = .ok (.iconst 2, 1) := by decide +kernel
theorem dL_law_253 : decode cL_law 253 = .ok (.iadd, 1) := by decide +kernel
theorem dL_law_254 : decode cL_law 254 = .ok (.iaload, 1) := by decide +kernel
theorem dL_law_255 : decode cL_law 255 = .ok (.i2l, 1) := by decide +kernel
theorem dL_law_256 : decode cL_law 256 = .ok (.ldc2_w 23, 3) := by decide +kernel
theorem dL_law_259 : decode cL_law 259 = .ok (.land, 1) := by decide +kernel
theorem dL_law_260 : decode cL_law 260 = .ok (.lor, 1) := by decide +kernel
theorem dL_law_261 : decode cL_law 261 = .ok (.invokevirtual 25, 3) := by decide +kernel
theorem dL_law_264 : decode cL_law 264 = .ok (.aload_n 2, 1) := by decide +kernel
theorem dL_law_265 : decode cL_law 265 = .ok (.aload_n 0, 1) := by decide +kernel
theorem dL_law_266 : decode cL_law 266 = .ok (.iload_n 3, 1) := by decide +kernel
theorem dL_law_267 : decode cL_law 267 = .ok (.iconst 1, 1) := by decide +kernel
theorem dL_law_268 : decode cL_law 268 = .ok (.iadd, 1) := by decide +kernel
theorem dL_law_269 : decode cL_law 269 = .ok (.iaload, 1) := by decide +kernel
theorem dL_law_270 : decode cL_law 270 = .ok (.i2l, 1) := by decide +kernel
theorem dL_law_271 : decode cL_law 271 = .ok (.bipush 32, 2) := by decide +kernel
theorem dL_law_273 : decode cL_law 273 = .ok (.lshl, 1) := by decide +kernel
theorem dL_law_274 : decode cL_law 274 = .ok (.aload_n 0, 1) := by decide +kernel
theorem dL_law_275 : decode cL_law 275 = .ok (.iload_n 3, 1) := by decide +kernel
theorem dL_law_276 : decode cL_law 276 = .ok (.iconst 2, 1) := by decide +kernel
theorem dL_law_277 : decode cL_law 277 = .ok (.iadd, 1) := by decide +kernel
theorem dL_law_278 : decode cL_law 278 = .ok (.iaload, 1) := by decide +kernel
theorem dL_law_279 : decode cL_law 279 = .ok (.i2l, 1) := by decide +kernel
theorem dL_law_280 : decode cL_law 280 = .ok (.ldc2_w 23, 3) := by decide +kernel
theorem dL_law_283 : decode cL_law 283 = .ok (.land, 1) := by decide +kernel
theorem dL_law_284 : decode cL_law 284 = .ok (.lor, 1) := by decide +kernel
theorem dL_law_285 : decode cL_law 285 = .ok (.invokevirtual 29, 3) := by decide +kernel
theorem dL_law_288 : decode cL_law 288 = .ok (.if_icmp .eq 840, 3) := by decide +kernel
theorem dL_law_291 : decode cL_law 291 = .ok (.iconst 0, 1) := by decide +kernel
theorem dL_law_292 : decode cL_law 292 = .ok (.ireturn, 1) := by decide +kernel
theorem dL_law_293 : decode cL_law 293 = .ok (.aload_n 1, 1) := by decide +kernel
theorem dL_law_294 : decode cL_law 294 = .ok (.aload_n 0, 1) := by decide +kernel
theorem dL_law_295 : decode cL_law 295 = .ok (.iload_n 3, 1) := by decide +kernel
theorem dL_law_296 : decode cL_law 296 = .ok (.iconst 1, 1) := by decide +kernel
theorem dL_law_297 : decode cL_law 297 = .ok (.iadd, 1) := by decide +kernel
theorem dL_law_298 : decode cL_law 298 = .ok (.iaload, 1) := by decide +kernel
theorem dL_law_299 : decode cL_law 299 = .ok (.i2l, 1) := by decide +kernel
theorem dL_law_300 : decode cL_law 300 = .ok (.bipush 32, 2) := by decide +kernel
theorem dL_law_302 : decode cL_law 302 = .ok (.lshl, 1) := by decide +kernel
theorem dL_law_303 : decode cL_law 303 = .ok (.aload_n 0, 1) := by decide +kernel
theorem dL_law_304 : decode cL_law 304 = .ok (.iload_n 3, 1) := by decide +kernel
theorem dL_law_305 : decode cL_law 305 = .ok (.iconst 2, 1) := by decide +kernel
theorem dL_law_306 : decode cL_law 306 = .ok (.iadd, 1) := by decide +kernel
theorem dL_law_307 : decode cL_law 307 = .ok (.iaload, 1) := by decide +kernel
theorem dL_law_308 : decode cL_law 308 = .ok (.i2l, 1) := by decide +kernel
theorem dL_law_309 : decode cL_law 309 = .ok (.ldc2_w 23, 3) := by decide +kernel
theorem dL_law_312 : decode cL_law 312 = .ok (.land, 1) := by decide +kernel
theorem dL_law_313 : decode cL_law 313 = .ok (.lor, 1) := by decide +kernel
theorem dL_law_314 : decode cL_law 314 = .ok (.invokevirtual 30, 3) := by decide +kernel
theorem dL_law_317 : decode cL_law 317 = .ok (.aload_n 2, 1) := by decide +kernel
theorem dL_law_318 : decode cL_law 318 = .ok (.aload_n 0, 1) := by decide +kernel
theorem dL_law_319 : decode cL_law 319 = .ok (.iload_n 3, 1) := by decide +kernel
theorem dL_law_320 : decode cL_law 320 = .ok (.iconst 1, 1) := by decide +kernel
theorem dL_law_321 : decode cL_law 321 = .ok (.iadd, 1) := by decide +kernel
theorem dL_law_322 : decode cL_law 322 = .ok (.iaload, 1) := by decide +kernel
theorem dL_law_323 : decode cL_law 323 = .ok (.i2l, 1) := by decide +kernel
theorem dL_law_324 : decode cL_law 324 = .ok (.bipush 32, 2) := by decide +kernel
theorem dL_law_326 : decode cL_law 326 = .ok (.lshl, 1) := by decide +kernel
theorem dL_law_327 : decode cL_law 327 = .ok (.aload_n 0, 1) := by decide +kernel
theorem dL_law_328 : decode cL_law 328 = .ok (.iload_n 3, 1) := by decide +kernel
theorem dL_law_329 : decode cL_law 329 = .ok (.iconst 2, 1) := by decide +kernel
theorem dL_law_330 : decode cL_law 330 = .ok (.iadd, 1) := by decide +kernel
theorem dL_law_331 : decode cL_law 331 = .ok (.iaload, 1) := by decide +kernel
theorem dL_law_332 : decode cL_law 332 = .ok (.i2l, 1) := by decide +kernel
theorem dL_law_333 : decode cL_law 333 = .ok (.ldc2_w 23, 3) := by decide +kernel
theorem dL_law_336 : decode cL_law 336 = .ok (.land, 1) := by decide +kernel
theorem dL_law_337 : decode cL_law 337 = .ok (.lor, 1) := by decide +kernel
theorem dL_law_338 : decode cL_law 338 = .ok (.invokevirtual 33, 3) := by decide +kernel
theorem dL_law_341 : decode cL_law 341 = .ok (.if_icmp .eq 787, 3) := by decide +kernel
theorem dL_law_344 : decode cL_law 344 = .ok (.iconst 0, 1) := by decide +kernel
theorem dL_law_345 : decode cL_law 345 = .ok (.ireturn, 1) := by decide +kernel
theorem dL_law_346 : decode cL_law 346 = .ok (.aload_n 1, 1) := by decide +kernel
theorem dL_law_347 : decode cL_law 347 = .ok (.aload_n 0, 1) := by decide +kernel
theorem dL_law_348 : decode cL_law 348 = .ok (.iload_n 3, 1) := by decide +kernel
theorem dL_law_349 : decode cL_law 349 = .ok (.iconst 1, 1) := by decide +kernel
theorem dL_law_350 : decode cL_law 350 = .ok (.iadd, 1) := by decide +kernel
theorem dL_law_351 : decode cL_law 351 = .ok (.iaload, 1) := by decide +kernel
theorem dL_law_352 : decode cL_law 352 = .ok (.aload_n 0, 1) := by decide +kernel
theorem dL_law_353 : decode cL_law 353 = .ok (.iload_n 3, 1) := by decide +kernel
theorem dL_law_354 : decode cL_law 354 = .ok (.iconst 2, 1) := by decide +kernel
theorem dL_law_355 : decode cL_law 355 = .ok (.iadd, 1) := by decide +kernel
theorem dL_law_356 : decode cL_law 356 = .ok (.iaload, 1) := by decide +kernel
theorem dL_law_357 : decode cL_law 357 = .ok (.i2l, 1) := by decide +kernel
theorem dL_law_358 : decode cL_law 358 = .ok (.bipush 32, 2) := by decide +kernel
theorem dL_law_360 : decode cL_law 360 = .ok (.lshl, 1) := by decide +kernel
theorem dL_law_361 : decode cL_law 361 = .ok (.aload_n 0, 1) := by decide +kernel
theorem dL_law_362 : decode cL_law 362 = .ok (.iload_n 3, 1) := by decide +kernel
theorem dL_law_363 : decode cL_law 363 = .ok (.iconst 3, 1) := by decide +kernel
theorem dL_law_364 : decode cL_law 364 = .ok (.iadd, 1) := by decide +kernel
theorem dL_law_365 : decode cL_law 365 = .ok (.iaload, 1) := by decide +kernel
theorem dL_law_366 : decode cL_law 366 = .ok (.i2l, 1) := by decide +kernel
theorem dL_law_367 : decode cL_law 367 = .ok (.ldc2_w 23, 3) := by decide +kernel
theorem dL_law_370 : decode cL_law 370 = .ok (.land, 1) := by decide +kernel
theorem dL_law_371 : decode cL_law 371 = .ok (.lor, 1) := by decide +kernel
theorem dL_law_372 : decode cL_law 372 = .ok (.aload_n 0, 1) := by decide +kernel
theorem dL_law_373 : decode cL_law 373 = .ok (.iload_n 3, 1) := by decide +kernel
theorem dL_law_374 : decode cL_law 374 = .ok (.iconst 4, 1) := by decide +kernel
theorem dL_law_375 : decode cL_law 375 = .ok (.iadd, 1) := by decide +kernel
theorem dL_law_376 : decode cL_law 376 = .ok (.iaload, 1) := by decide +kernel
theorem dL_law_377 : decode cL_law 377 = .ok (.aload_n 0, 1) := by decide +kernel
theorem dL_law_378 : decode cL_law 378 = .ok (.iload_n 3, 1) := by decide +kernel
theorem dL_law_379 : decode cL_law 379 = .ok (.iconst 5, 1) := by decide +kernel
theorem dL_law_380 : decode cL_law 380 = .ok (.iadd, 1) := by decide +kernel
theorem dL_law_381 : decode cL_law 381 = .ok (.iaload, 1) := by decide +kernel
theorem dL_law_382 : decode cL_law 382 = .ok (.invokevirtual 34, 3) := by decide +kernel
theorem dL_law_385 : decode cL_law 385 = .ok (.aload_n 2, 1) := by decide +kernel
theorem dL_law_386 : decode cL_law 386 = .ok (.aload_n 0, 1) := by decide +kernel
theorem dL_law_387 : decode cL_law 387 = .ok (.iload_n 3, 1) := by decide +kernel
theorem dL_law_388 : decode cL_law 388 = .ok (.iconst 1, 1) := by decide +kernel
theorem dL_law_389 : decode cL_law 389 = .ok (.iadd, 1) := by decide +kernel
theorem dL_law_390 : decode cL_law 390 = .ok (.iaload, 1) := by decide +kernel
theorem dL_law_391 : decode cL_law 391 = .ok (.aload_n 0, 1) := by decide +kernel
theorem dL_law_392 : decode cL_law 392 = .ok (.iload_n 3, 1) := by decide +kernel
theorem dL_law_393 : decode cL_law 393 = .ok (.iconst 2, 1) := by decide +kernel
theorem dL_law_394 : decode cL_law 394 = .ok (.iadd, 1) := by decide +kernel
theorem dL_law_395 : decode cL_law 395 = .ok (.iaload, 1) := by decide +kernel
theorem dL_law_396 : decode cL_law 396 = .ok (.i2l, 1) := by decide +kernel
theorem dL_law_397 : decode cL_law 397 = .ok (.bipush 32, 2) := by decide +kernel
theorem dL_law_399 : decode cL_law 399 = .ok (.lshl, 1) := by decide +kernel
theorem dL_law_400 : decode cL_law 400 = .ok (.aload_n 0, 1) := by decide +kernel
theorem dL_law_401 : decode cL_law 401 = .ok (.iload_n 3, 1) := by decide +kernel
theorem dL_law_402 : decode cL_law 402 = .ok (.iconst 3, 1) := by decide +kernel
theorem dL_law_403 : decode cL_law 403 = .ok (.iadd, 1) := by decide +kernel
theorem dL_law_404 : decode cL_law 404 = .ok (.iaload, 1) := by decide +kernel
theorem dL_law_405 : decode cL_law 405 = .ok (.i2l, 1) := by decide +kernel
theorem dL_law_406 : decode cL_law 406 = .ok (.ldc2_w 23, 3) := by decide +kernel
theorem dL_law_409 : decode cL_law 409 = .ok (.land, 1) := by decide +kernel
theorem dL_law_410 : decode cL_law 410 = .ok (.lor, 1) := by decide +kernel
theorem dL_law_411 : decode cL_law 411 = .ok (.aload_n 0, 1) := by decide +kernel
theorem dL_law_412 : decode cL_law 412 = .ok (.iload_n 3, 1) := by decide +kernel
theorem dL_law_413 : decode cL_law 413 = .ok (.iconst 4, 1) := by decide +kernel
theorem dL_law_414 : decode cL_law 414 = .ok (.iadd, 1) := by decide +kernel
theorem dL_law_415 : decode cL_law 415 = .ok (.iaload, 1) := by decide +kernel
theorem dL_law_416 : decode cL_law 416 = .ok (.aload_n 0, 1) := by decide +kernel
theorem dL_law_417 : decode cL_law 417 = .ok (.iload_n 3, 1) := by decide +kernel
theorem dL_law_418 : decode cL_law 418 = .ok (.iconst 5, 1) := by decide +kernel
theorem dL_law_419 : decode cL_law 419 = .ok (.iadd, 1) := by decide +kernel
theorem dL_law_420 : decode cL_law 420 = .ok (.iaload, 1) := by decide +kernel
theorem dL_law_421 : decode cL_law 421 = .ok (.invokevirtual 38, 3) := by decide +kernel
theorem dL_law_424 : decode cL_law 424 = .ok (.if_icmp .eq 704, 3) := by decide +kernel
theorem dL_law_427 : decode cL_law 427 = .ok (.iconst 0, 1) := by decide +kernel
theorem dL_law_428 : decode cL_law 428 = .ok (.ireturn, 1) := by decide +kernel
theorem dL_law_429 : decode cL_law 429 = .ok (.aload_n 1, 1) := by decide +kernel
theorem dL_law_430 : decode cL_law 430 = .ok (.aload_n 0, 1) := by decide +kernel
theorem dL_law_431 : decode cL_law 431 = .ok (.iload_n 3, 1) := by decide +kernel
theorem dL_law_432 : decode cL_law 432 = .ok (.iconst 1, 1) := by decide +kernel
theorem dL_law_433 : decode cL_law 433 = .ok (.iadd, 1) := by decide +kernel
theorem dL_law_434 : decode cL_law 434 = .ok (.iaload, 1) := by decide +kernel
theorem dL_law_435 : decode cL_law 435 = .ok (.aload_n 0, 1) := by decide +kernel
theorem dL_law_436 : decode cL_law 436 = .ok (.iload_n 3, 1) := by decide +kernel
theorem dL_law_437 : decode cL_law 437 = .ok (.iconst 2, 1) := by decide +kernel
theorem dL_law_438 : decode cL_law 438 = .ok (.iadd, 1) := by decide +kernel
theorem dL_law_439 : decode cL_law 439 = .ok (.iaload, 1) := by decide +kernel
theorem dL_law_440 : decode cL_law 440 = .ok (.invokevirtual 39, 3) := by decide +kernel
theorem dL_law_443 : decode cL_law 443 = .ok (.aload_n 2, 1) := by decide +kernel
theorem dL_law_444 : decode cL_law 444 = .ok (.aload_n 0, 1) := by decide +kernel
theorem dL_law_445 : decode cL_law 445 = .ok (.iload_n 3, 1) := by decide +kernel
theorem dL_law_446 : decode cL_law 446 = .ok (.iconst 1, 1) := by decide +kernel
theorem dL_law_447 : decode cL_law 447 = .ok (.iadd, 1) := by decide +kernel
theorem dL_law_448 : decode cL_law 448 = .ok (.iaload, 1) := by decide +kernel
theorem dL_law_449 : decode cL_law 449 = .ok (.aload_n 0, 1) := by decide +kernel
theorem dL_law_450 : decode cL_law 450 = .ok (.iload_n 3, 1) := by decide +kernel
theorem dL_law_451 : decode cL_law 451 = .ok (.iconst 2, 1) := by decide +kernel
theorem dL_law_452 : decode cL_law 452 = .ok (.iadd, 1) := by decide +kernel
theorem dL_law_453 : decode cL_law 453 = .ok (.iaload, 1) := by decide +kernel
theorem dL_law_454 : decode cL_law 454 = .ok (.invokevirtual 42, 3) := by decide +kernel
theorem dL_law_457 : decode cL_law 457 = .ok (.if_icmp .eq 671, 3) := by decide +kernel
theorem dL_law_460 : decode cL_law 460 = .ok (.iconst 0, 1) := by decide +kernel
theorem dL_law_461 : decode cL_law 461 = .ok (.ireturn, 1) := by decide +kernel
theorem dL_law_462 : decode cL_law 462 = .ok (.aload_n 1, 1) := by decide +kernel
theorem dL_law_463 : decode cL_law 463 = .ok (.aload_n 0, 1) := by decide +kernel
theorem dL_law_464 : decode cL_law 464 = .ok (.iload_n 3, 1) := by decide +kernel
theorem dL_law_465 : decode cL_law 465 = .ok (.iconst 1, 1) := by decide +kernel
theorem dL_law_466 : decode cL_law 466 = .ok (.iadd, 1) := by decide +kernel
theorem dL_law_467 : decode cL_law 467 = .ok (.iaload, 1) := by decide +kernel
theorem dL_law_468 : decode cL_law 468 = .ok (.aload_n 0, 1) := by decide +kernel
theorem dL_law_469 : decode cL_law 469 = .ok (.iload_n 3, 1) := by decide +kernel
theorem dL_law_470 : decode cL_law 470 = .ok (.iconst 2, 1) := by decide +kernel
theorem dL_law_471 : decode cL_law 471 = .ok (.iadd, 1) := by decide +kernel
theorem dL_law_472 : decode cL_law 472 = .ok (.iaload, 1) := by decide +kernel
theorem dL_law_473 : decode cL_law 473 = .ok (.invokevirtual 43, 3) := by decide +kernel
theorem dL_law_476 : decode cL_law 476 = .ok (.aload_n 2, 1) := by decide +kernel
theorem dL_law_477 : decode cL_law 477 = .ok (.aload_n 0, 1) := by decide +kernel
theorem dL_law_478 : decode cL_law 478 = .ok (.iload_n 3, 1) := by decide +kernel
theorem dL_law_479 : decode cL_law 479 = .ok (.iconst 1, 1) := by decide +kernel
theorem dL_law_480 : decode cL_law 480 = .ok (.iadd, 1) := by decide +kernel
theorem dL_law_481 : decode cL_law 481 = .ok (.iaload, 1) := by decide +kernel
theorem dL_law_482 : decode cL_law 482 = .ok (.aload_n 0, 1) := by decide +kernel
theorem dL_law_483 : decode cL_law 483 = .ok (.iload_n 3, 1) := by decide +kernel
theorem dL_law_484 : decode cL_law 484 = .ok (.iconst 2, 1) := by decide +kernel
theorem dL_law_485 : decode cL_law 485 = .ok (.iadd, 1) := by decide +kernel
theorem dL_law_486 : decode cL_law 486 = .ok (.iaload, 1) := by decide +kernel
theorem dL_law_487 : decode cL_law 487 = .ok (.invokevirtual 46, 3) := by decide +kernel
theorem dL_law_490 : decode cL_law 490 = .ok (.if_icmp .eq 638, 3) := by decide +kernel
theorem dL_law_493 : decode cL_law 493 = .ok (.iconst 0, 1) := by decide +kernel
theorem dL_law_494 : decode cL_law 494 = .ok (.ireturn, 1) := by decide +kernel
theorem dL_law_495 : decode cL_law 495 = .ok (.aload_n 1, 1) := by decide +kernel
theorem dL_law_496 : decode cL_law 496 = .ok (.aload_n 0, 1) := by decide +kernel
theorem dL_law_497 : decode cL_law 497 = .ok (.iload_n 3, 1) := by decide +kernel
theorem dL_law_498 : decode cL_law 498 = .ok (.iconst 1, 1) := by decide +kernel
theorem dL_law_499 : decode cL_law 499 = .ok (.iadd, 1) := by decide +kernel
theorem dL_law_500 : decode cL_law 500 = .ok (.iaload, 1) := by decide +kernel
theorem dL_law_501 : decode cL_law 501 = .ok (.aload_n 0, 1) := by decide +kernel
theorem dL_law_502 : decode cL_law 502 = .ok (.iload_n 3, 1) := by decide +kernel
theorem dL_law_503 : decode cL_law 503 = .ok (.iconst 2, 1) := by decide +kernel
theorem dL_law_504 : decode cL_law 504 = .ok (.iadd, 1) := by decide +kernel
theorem dL_law_505 : decode cL_law 505 = .ok (.iaload, 1) := by decide +kernel
theorem dL_law_506 : decode cL_law 506 = .ok (.invokevirtual 47, 3) := by decide +kernel
theorem dL_law_509 : decode cL_law 509 = .ok (.aload_n 2, 1) := by decide +kernel
theorem dL_law_510 : decode cL_law 510 = .ok (.aload_n 0, 1) := by decide +kernel
theorem dL_law_511 : decode cL_law 511 = .ok (.iload_n 3, 1) := by decide +kernel
theorem dL_law_512 : decode cL_law 512 = .ok (.iconst 1, 1) := by decide +kernel
theorem dL_law_513 : decode cL_law 513 = .ok (.iadd, 1) := by decide +kernel
theorem dL_law_514 : decode cL_law 514 = .ok (.iaload, 1) := by decide +kernel
theorem dL_law_515 : decode cL_law 515 = .ok (.aload_n 0, 1) := by decide +kernel
theorem dL_law_516 : decode cL_law 516 = .ok (.iload_n 3, 1) := by decide +kernel
theorem dL_law_517 : decode cL_law 517 = .ok (.iconst 2, 1) := by decide +kernel
theorem dL_law_518 : decode cL_law 518 = .ok (.iadd, 1) := by decide +kernel
theorem dL_law_519 : decode cL_law 519 = .ok (.iaload, 1) := by decide +kernel
theorem dL_law_520 : decode cL_law 520 = .ok (.invokevirtual 50, 3) := by decide +kernel
theorem dL_law_523 : decode cL_law 523 = .ok (.if_icmp .eq 605, 3) := by decide +kernel
theorem dL_law_526 : decode cL_law 526 = .ok (.iconst 0, 1) := by decide +kernel
theorem dL_law_527 : decode cL_law 527 = .ok (.ireturn, 1) := by decide +kernel
theorem dL_law_528 : decode cL_law 528 = .ok (.aload_n 1, 1) := by decide +kernel
theorem dL_law_529 : decode cL_law 529 = .ok (.aload_n 0, 1) := by decide +kernel
theorem dL_law_530 : decode cL_law 530 = .ok (.iload_n 3, 1) := by decide +kernel
theorem dL_law_531 : decode cL_law 531 = .ok (.iconst 1, 1) := by decide +kernel
theorem dL_law_532 : decode cL_law 532 = .ok (.iadd, 1) := by decide +kernel
theorem dL_law_533 : decode cL_law 533 = .ok (.iaload, 1) := by decide +kernel
theorem dL_law_534 : decode cL_law 534 = .ok (.aload_n 0, 1) := by decide +kernel
theorem dL_law_535 : decode cL_law 535 = .ok (.iload_n 3, 1) := by decide +kernel
theorem dL_law_536 : decode cL_law 536 = .ok (.iconst 2, 1) := by decide +kernel
theorem dL_law_537 : decode cL_law 537 = .ok (.iadd, 1) := by decide +kernel
theorem dL_law_538 : decode cL_law 538 = .ok (.iaload, 1) := by decide +kernel
theorem dL_law_539 : decode cL_law 539 = .ok (.invokevirtual 51, 3) := by decide +kernel
theorem dL_law_542 : decode cL_law 542 = .ok (.aload_n 2, 1) := by decide +kernel
theorem dL_law_543 : decode cL_law 543 = .ok (.aload_n 0, 1) := by decide +kernel
theorem dL_law_544 : decode cL_law 544 = .ok (.iload_n 3, 1) := by decide +kernel
theorem dL_law_545 : decode cL_law 545 = .ok (.iconst 1, 1) := by decide +kernel
theorem dL_law_546 : decode cL_law 546 = .ok (.iadd, 1) := by decide +kernel
theorem dL_law_547 : decode cL_law 547 = .ok (.iaload, 1) := by decide +kernel
theorem dL_law_548 : decode cL_law 548 = .ok (.aload_n 0, 1) := by decide +kernel
theorem dL_law_549 : decode cL_law 549 = .ok (.iload_n 3, 1) := by decide +kernel
theorem dL_law_550 : decode cL_law 550 = .ok (.iconst 2, 1) := by decide +kernel
theorem dL_law_551 : decode cL_law 551 = .ok (.iadd, 1) := by decide +kernel
theorem dL_law_552 : decode cL_law 552 = .ok (.iaload, 1) := by decide +kernel
theorem dL_law_553 : decode cL_law 553 = .ok (.invokevirtual 54, 3) := by decide +kernel
theorem dL_law_556 : decode cL_law 556 = .ok (.if_icmp .eq 572, 3) := by decide +kernel
theorem dL_law_559 : decode cL_law 559 = .ok (.iconst 0, 1) := by decide +kernel
theorem dL_law_560 : decode cL_law 560 = .ok (.ireturn, 1) := by decide +kernel
theorem dL_law_561 : decode cL_law 561 = .ok (.aload_n 1, 1) := by decide +kernel
theorem dL_law_562 : decode cL_law 562 = .ok (.aload_n 0, 1) := by decide +kernel
theorem dL_law_563 : decode cL_law 563 = .ok (.iload_n 3, 1) := by decide +kernel
theorem dL_law_564 : decode cL_law 564 = .ok (.iconst 1, 1) := by decide +kernel
theorem dL_law_565 : decode cL_law 565 = .ok (.iadd, 1) := by decide +kernel
theorem dL_law_566 : decode cL_law 566 = .ok (.iaload, 1) := by decide +kernel
theorem dL_law_567 : decode cL_law 567 = .ok (.aload_n 0, 1) := by decide +kernel
theorem dL_law_568 : decode cL_law 568 = .ok (.iload_n 3, 1) := by decide +kernel
theorem dL_law_569 : decode cL_law 569 = .ok (.iconst 2, 1) := by decide +kernel
theorem dL_law_570 : decode cL_law 570 = .ok (.iadd, 1) := by decide +kernel
theorem dL_law_571 : decode cL_law 571 = .ok (.iaload, 1) := by decide +kernel
theorem dL_law_572 : decode cL_law 572 = .ok (.invokevirtual 55, 3) := by decide +kernel
theorem dL_law_575 : decode cL_law 575 = .ok (.aload_n 2, 1) := by decide +kernel
theorem dL_law_576 : decode cL_law 576 = .ok (.aload_n 0, 1) := by decide +kernel
theorem dL_law_577 : decode cL_law 577 = .ok (.iload_n 3, 1) := by decide +kernel
theorem dL_law_578 : decode cL_law 578 = .ok (.iconst 1, 1) := by decide +kernel
theorem dL_law_579 : decode cL_law 579 = .ok (.iadd, 1) := by decide +kernel
theorem dL_law_580 : decode cL_law 580 = .ok (.iaload, 1) := by decide +kernel
theorem dL_law_581 : decode cL_law 581 = .ok (.aload_n 0, 1) := by decide +kernel
theorem dL_law_582 : decode cL_law 582 = .ok (.iload_n 3, 1) := by decide +kernel
theorem dL_law_583 : decode cL_law 583 = .ok (.iconst 2, 1) := by decide +kernel
theorem dL_law_584 : decode cL_law 584 = .ok (.iadd, 1) := by decide +kernel
theorem dL_law_585 : decode cL_law 585 = .ok (.iaload, 1) := by decide +kernel
theorem dL_law_586 : decode cL_law 586 = .ok (.invokevirtual 58, 3) := by decide +kernel
theorem dL_law_589 : decode cL_law 589 = .ok (.if_icmp .eq 539, 3) := by decide +kernel
theorem dL_law_592 : decode cL_law 592 = .ok (.iconst 0, 1) := by decide +kernel
theorem dL_law_593 : decode cL_law 593 = .ok (.ireturn, 1) := by decide +kernel
theorem dL_law_594 : decode cL_law 594 = .ok (.aload_n 1, 1) := by decide +kernel
theorem dL_law_595 : decode cL_law 595 = .ok (.aload_n 0, 1) := by decide +kernel
theorem dL_law_596 : decode cL_law 596 = .ok (.iload_n 3, 1) := by decide +kernel
theorem dL_law_597 : decode cL_law 597 = .ok (.iconst 1, 1) := by decide +kernel
theorem dL_law_598 : decode cL_law 598 = .ok (.iadd, 1) := by decide +kernel
theorem dL_law_599 : decode cL_law 599 = .ok (.iaload, 1) := by decide +kernel
theorem dL_law_600 : decode cL_law 600 = .ok (.invokevirtual 59, 3) := by decide +kernel
theorem dL_law_603 : decode cL_law 603 = .ok (.aload_n 2, 1) := by decide +kernel
theorem dL_law_604 : decode cL_law 604 = .ok (.aload_n 0, 1) := by decide +kernel
theorem dL_law_605 : decode cL_law 605 = .ok (.iload_n 3, 1) := by decide +kernel
theorem dL_law_606 : decode cL_law 606 = .ok (.iconst 1, 1) := by decide +kernel
theorem dL_law_607 : decode cL_law 607 = .ok (.iadd, 1) := by decide +kernel
theorem dL_law_608 : decode cL_law 608 = .ok (.iaload, 1) := by decide +kernel
theorem dL_law_609 : decode cL_law 609 = .ok (.invokevirtual 63, 3) := by decide +kernel
theorem dL_law_612 : decode cL_law 612 = .ok (.if_icmp .eq 516, 3) := by decide +kernel
theorem dL_law_615 : decode cL_law 615 = .ok (.iconst 0, 1) := by decide +kernel
theorem dL_law_616 : decode cL_law 616 = .ok (.ireturn, 1) := by decide +kernel
theorem dL_law_617 : decode cL_law 617 = .ok (.aload_n 1, 1) := by decide +kernel
theorem dL_law_618 : decode cL_law 618 = .ok (.aload_n 0, 1) := by decide +kernel
theorem dL_law_619 : decode cL_law 619 = .ok (.iload_n 3, 1) := by decide +kernel
theorem dL_law_620 : decode cL_law 620 = .ok (.iconst 1, 1) := by decide +kernel
theorem dL_law_621 : decode cL_law 621 = .ok (.iadd, 1) := by decide +kernel
theorem dL_law_622 : decode cL_law 622 = .ok (.iaload, 1) := by decide +kernel
theorem dL_law_623 : decode cL_law 623 = .ok (.invokevirtual 64, 3) := by decide +kernel
theorem dL_law_626 : decode cL_law 626 = .ok (.aload_n 2, 1) := by decide +kernel
theorem dL_law_627 : decode cL_law 627 = .ok (.aload_n 0, 1) := by decide +kernel
theorem dL_law_628 : decode cL_law 628 = .ok (.iload_n 3, 1) := by decide +kernel
theorem dL_law_629 : decode cL_law 629 = .ok (.iconst 1, 1) := by decide +kernel
theorem dL_law_630 : decode cL_law 630 = .ok (.iadd, 1) := by decide +kernel
theorem dL_law_631 : decode cL_law 631 = .ok (.iaload, 1) := by decide +kernel
theorem dL_law_632 : decode cL_law 632 = .ok (.invokevirtual 67, 3) := by decide +kernel
theorem dL_law_635 : decode cL_law 635 = .ok (.if_icmp .eq 493, 3) := by decide +kernel
theorem dL_law_638 : decode cL_law 638 = .ok (.iconst 0, 1) := by decide +kernel
theorem dL_law_639 : decode cL_law 639 = .ok (.ireturn, 1) := by decide +kernel
theorem dL_law_640 : decode cL_law 640 = .ok (.aload_n 1, 1) := by decide +kernel
theorem dL_law_641 : decode cL_law 641 = .ok (.aload_n 0, 1) := by decide +kernel
theorem dL_law_642 : decode cL_law 642 = .ok (.iload_n 3, 1) := by decide +kernel
theorem dL_law_643 : decode cL_law 643 = .ok (.iconst 1, 1) := by decide +kernel
theorem dL_law_644 : decode cL_law 644 = .ok (.iadd, 1) := by decide +kernel
theorem dL_law_645 : decode cL_law 645 = .ok (.iaload, 1) := by decide +kernel
theorem dL_law_646 : decode cL_law 646 = .ok (.i2c, 1) := by decide +kernel
theorem dL_law_647 : decode cL_law 647 = .ok (.invokevirtual 68, 3) := by decide +kernel
theorem dL_law_650 : decode cL_law 650 = .ok (.aload_n 2, 1) := by decide +kernel
theorem dL_law_651 : decode cL_law 651 = .ok (.aload_n 0, 1) := by decide +kernel
theorem dL_law_652 : decode cL_law 652 = .ok (.iload_n 3, 1) := by decide +kernel
theorem dL_law_653 : decode cL_law 653 = .ok (.iconst 1, 1) := by decide +kernel
theorem dL_law_654 : decode cL_law 654 = .ok (.iadd, 1) := by decide +kernel
theorem dL_law_655 : decode cL_law 655 = .ok (.iaload, 1) := by decide +kernel
theorem dL_law_656 : decode cL_law 656 = .ok (.i2c, 1) := by decide +kernel
theorem dL_law_657 : decode cL_law 657 = .ok (.invokevirtual 72, 3) := by decide +kernel
theorem dL_law_660 : decode cL_law 660 = .ok (.if_icmp .eq 468, 3) := by decide +kernel
theorem dL_law_663 : decode cL_law 663 = .ok (.iconst 0, 1) := by decide +kernel
theorem dL_law_664 : decode cL_law 664 = .ok (.ireturn, 1) := by decide +kernel
theorem dL_law_665 : decode cL_law 665 = .ok (.aload_n 1, 1) := by decide +kernel
theorem dL_law_666 : decode cL_law 666 = .ok (.invokevirtual 73, 3) := by decide +kernel
theorem dL_law_669 : decode cL_law 669 = .ok (.aload_n 2, 1) := by decide +kernel
theorem dL_law_670 : decode cL_law 670 = .ok (.invokevirtual 77, 3) := by decide +kernel
theorem dL_law_673 : decode cL_law 673 = .ok (.if_icmp .eq 455, 3) := by decide +kernel
theorem dL_law_676 : decode cL_law 676 = .ok (.iconst 0, 1) := by decide +kernel
theorem dL_law_677 : decode cL_law 677 = .ok (.ireturn, 1) := by decide +kernel
theorem dL_law_678 : decode cL_law 678 = .ok (.aload_n 1, 1) := by decide +kernel
theorem dL_law_679 : decode cL_law 679 = .ok (.invokevirtual 78, 3) := by decide +kernel
theorem dL_law_682 : decode cL_law 682 = .ok (.aload_n 2, 1) := by decide +kernel
theorem dL_law_683 : decode cL_law 683 = .ok (.invokevirtual 81, 3) := by decide +kernel
theorem dL_law_686 : decode cL_law 686 = .ok (.if_icmp .eq 442, 3) := by decide +kernel
theorem dL_law_689 : decode cL_law 689 = .ok (.iconst 0, 1) := by decide +kernel
theorem dL_law_690 : decode cL_law 690 = .ok (.ireturn, 1) := by decide +kernel
theorem dL_law_691 : decode cL_law 691 = .ok (.aload_n 1, 1) := by decide +kernel
theorem dL_law_692 : decode cL_law 692 = .ok (.invokevirtual 82, 3) := by decide +kernel
theorem dL_law_695 : decode cL_law 695 = .ok (.aload_n 2, 1) := by decide +kernel
theorem dL_law_696 : decode cL_law 696 = .ok (.invokevirtual 85, 3) := by decide +kernel
theorem dL_law_699 : decode cL_law 699 = .ok (.if_icmp .eq 429, 3) := by decide +kernel
theorem dL_law_702 : decode cL_law 702 = .ok (.iconst 0, 1) := by decide +kernel
theorem dL_law_703 : decode cL_law 703 = .ok (.ireturn, 1) := by decide +kernel
theorem dL_law_704 : decode cL_law 704 = .ok (.aload_n 1, 1) := by decide +kernel
theorem dL_law_705 : decode cL_law 705 = .ok (.invokevirtual 86, 3) := by decide +kernel
theorem dL_law_708 : decode cL_law 708 = .ok (.aload_n 2, 1) := by decide +kernel
theorem dL_law_709 : decode cL_law 709 = .ok (.invokevirtual 89, 3) := by decide +kernel
theorem dL_law_712 : decode cL_law 712 = .ok (.if_icmp .eq 416, 3) := by decide +kernel
theorem dL_law_715 : decode cL_law 715 = .ok (.iconst 0, 1) := by decide +kernel
theorem dL_law_716 : decode cL_law 716 = .ok (.ireturn, 1) := by decide +kernel
theorem dL_law_717 : decode cL_law 717 = .ok (.aload_n 1, 1) := by decide +kernel
theorem dL_law_718 : decode cL_law 718 = .ok (.invokevirtual 90, 3) := by decide +kernel
theorem dL_law_721 : decode cL_law 721 = .ok (.aload_n 2, 1) := by decide +kernel
theorem dL_law_722 : decode cL_law 722 = .ok (.invokevirtual 93, 3) := by decide +kernel
theorem dL_law_725 : decode cL_law 725 = .ok (.if_icmp .eq 403, 3) := by decide +kernel
theorem dL_law_728 : decode cL_law 728 = .ok (.iconst 0, 1) := by decide +kernel
theorem dL_law_729 : decode cL_law 729 = .ok (.ireturn, 1) := by decide +kernel
theorem dL_law_730 : decode cL_law 730 = .ok (.aload_n 1, 1) := by decide +kernel
theorem dL_law_731 : decode cL_law 731 = .ok (.aload_n 0, 1) := by decide +kernel
theorem dL_law_732 : decode cL_law 732 = .ok (.iload_n 3, 1) := by decide +kernel
theorem dL_law_733 : decode cL_law 733 = .ok (.iconst 1, 1) := by decide +kernel
theorem dL_law_734 : decode cL_law 734 = .ok (.iadd, 1) := by decide +kernel
theorem dL_law_735 : decode cL_law 735 = .ok (.iaload, 1) := by decide +kernel
theorem dL_law_736 : decode cL_law 736 = .ok (.aload_n 0, 1) := by decide +kernel
theorem dL_law_737 : decode cL_law 737 = .ok (.iload_n 3, 1) := by decide +kernel
theorem dL_law_738 : decode cL_law 738 = .ok (.iconst 2, 1) := by decide +kernel
theorem dL_law_739 : decode cL_law 739 = .ok (.iadd, 1) := by decide +kernel
theorem dL_law_740 : decode cL_law 740 = .ok (.iaload, 1) := by decide +kernel
theorem dL_law_741 : decode cL_law 741 = .ok (.invokevirtual 94, 3) := by decide +kernel
theorem dL_law_744 : decode cL_law 744 = .ok (.aload_n 2, 1) := by decide +kernel
theorem dL_law_745 : decode cL_law 745 = .ok (.aload_n 0, 1) := by decide +kernel
theorem dL_law_746 : decode cL_law 746 = .ok (.iload_n 3, 1) := by decide +kernel
theorem dL_law_747 : decode cL_law 747 = .ok (.iconst 1, 1) := by decide +kernel
theorem dL_law_748 : decode cL_law 748 = .ok (.iadd, 1) := by decide +kernel
theorem dL_law_749 : decode cL_law 749 = .ok (.iaload, 1) := by decide +kernel
theorem dL_law_750 : decode cL_law 750 = .ok (.aload_n 0, 1) := by decide +kernel
theorem dL_law_751 : decode cL_law 751 = .ok (.iload_n 3, 1) := by decide +kernel
theorem dL_law_752 : decode cL_law 752 = .ok (.iconst 2, 1) := by decide +kernel
theorem dL_law_753 : decode cL_law 753 = .ok (.iadd, 1) := by decide +kernel
theorem dL_law_754 : decode cL_law 754 = .ok (.iaload, 1) := by decide +kernel
theorem dL_law_755 : decode cL_law 755 = .ok (.invokevirtual 97, 3) := by decide +kernel
theorem dL_law_758 : decode cL_law 758 = .ok (.if_icmp .eq 370, 3) := by decide +kernel
theorem dL_law_761 : decode cL_law 761 = .ok (.iconst 0, 1) := by decide +kernel
theorem dL_law_762 : decode cL_law 762 = .ok (.ireturn, 1) := by decide +kernel
theorem dL_law_763 : decode cL_law 763 = .ok (.aload_n 1, 1) := by decide +kernel
theorem dL_law_764 : decode cL_law 764 = .ok (.aload_n 0, 1) := by decide +kernel
theorem dL_law_765 : decode cL_law 765 = .ok (.iload_n 3, 1) := by decide +kernel
theorem dL_law_766 : decode cL_law 766 = .ok (.iconst 1, 1) := by decide +kernel
theorem dL_law_767 : decode cL_law 767 = .ok (.iadd, 1) := by decide +kernel
theorem dL_law_768 : decode cL_law 768 = .ok (.iaload, 1) := by decide +kernel
theorem dL_law_769 : decode cL_law 769 = .ok (.aload_n 0, 1) := by decide +kernel
theorem dL_law_770 : decode cL_law 770 = .ok (.iload_n 3, 1) := by decide +kernel
theorem dL_law_771 : decode cL_law 771 = .ok (.iconst 2, 1) := by decide +kernel
theorem dL_law_772 : decode cL_law 772 = .ok (.iadd, 1) := by decide +kernel
theorem dL_law_773 : decode cL_law 773 = .ok (.iaload, 1) := by decide +kernel
theorem dL_law_774 : decode cL_law 774 = .ok (.invokevirtual 98, 3) := by decide +kernel
theorem dL_law_777 : decode cL_law 777 = .ok (.aload_n 2, 1) := by decide +kernel
theorem dL_law_778 : decode cL_law 778 = .ok (.aload_n 0, 1) := by decide +kernel
theorem dL_law_779 : decode cL_law 779 = .ok (.iload_n 3, 1) := by decide +kernel
theorem dL_law_780 : decode cL_law 780 = .ok (.iconst 1, 1) := by decide +kernel
theorem dL_law_781 : decode cL_law 781 = .ok (.iadd, 1) := by decide +kernel
theorem dL_law_782 : decode cL_law 782 = .ok (.iaload, 1) := by decide +kernel
theorem dL_law_783 : decode cL_law 783 = .ok (.aload_n 0, 1) := by decide +kernel
theorem dL_law_784 : decode cL_law 784 = .ok (.iload_n 3, 1) := by decide +kernel
theorem dL_law_785 : decode cL_law 785 = .ok (.iconst 2, 1) := by decide +kernel
theorem dL_law_786 : decode cL_law 786 = .ok (.iadd, 1) := by decide +kernel
theorem dL_law_787 : decode cL_law 787 = .ok (.iaload, 1) := by decide +kernel
theorem dL_law_788 : decode cL_law 788 = .ok (.invokevirtual 101, 3) := by decide +kernel
theorem dL_law_791 : decode cL_law 791 = .ok (.if_icmp .eq 337, 3) := by decide +kernel
theorem dL_law_794 : decode cL_law 794 = .ok (.iconst 0, 1) := by decide +kernel
theorem dL_law_795 : decode cL_law 795 = .ok (.ireturn, 1) := by decide +kernel
theorem dL_law_796 : decode cL_law 796 = .ok (.aload_n 1, 1) := by decide +kernel
theorem dL_law_797 : decode cL_law 797 = .ok (.aload_n 0, 1) := by decide +kernel
theorem dL_law_798 : decode cL_law 798 = .ok (.iload_n 3, 1) := by decide +kernel
theorem dL_law_799 : decode cL_law 799 = .ok (.iconst 1, 1) := by decide +kernel
theorem dL_law_800 : decode cL_law 800 = .ok (.iadd, 1) := by decide +kernel
theorem dL_law_801 : decode cL_law 801 = .ok (.iaload, 1) := by decide +kernel
theorem dL_law_802 : decode cL_law 802 = .ok (.aload_n 0, 1) := by decide +kernel
theorem dL_law_803 : decode cL_law 803 = .ok (.iload_n 3, 1) := by decide +kernel
theorem dL_law_804 : decode cL_law 804 = .ok (.iconst 2, 1) := by decide +kernel
theorem dL_law_805 : decode cL_law 805 = .ok (.iadd, 1) := by decide +kernel
theorem dL_law_806 : decode cL_law 806 = .ok (.iaload, 1) := by decide +kernel
theorem dL_law_807 : decode cL_law 807 = .ok (.aload_n 0, 1) := by decide +kernel
theorem dL_law_808 : decode cL_law 808 = .ok (.iload_n 3, 1) := by decide +kernel
theorem dL_law_809 : decode cL_law 809 = .ok (.iconst 3, 1) := by decide +kernel
theorem dL_law_810 : decode cL_law 810 = .ok (.iadd, 1) := by decide +kernel
theorem dL_law_811 : decode cL_law 811 = .ok (.iaload, 1) := by decide +kernel
theorem dL_law_812 : decode cL_law 812 = .ok (.invokevirtual 102, 3) := by decide +kernel
theorem dL_law_815 : decode cL_law 815 = .ok (.aload_n 2, 1) := by decide +kernel
theorem dL_law_816 : decode cL_law 816 = .ok (.aload_n 0, 1) := by decide +kernel
theorem dL_law_817 : decode cL_law 817 = .ok (.iload_n 3, 1) := by decide +kernel
theorem dL_law_818 : decode cL_law 818 = .ok (.iconst 1, 1) := by decide +kernel
theorem dL_law_819 : decode cL_law 819 = .ok (.iadd, 1) := by decide +kernel
theorem dL_law_820 : decode cL_law 820 = .ok (.iaload, 1) := by decide +kernel
theorem dL_law_821 : decode cL_law 821 = .ok (.aload_n 0, 1) := by decide +kernel
theorem dL_law_822 : decode cL_law 822 = .ok (.iload_n 3, 1) := by decide +kernel
theorem dL_law_823 : decode cL_law 823 = .ok (.iconst 2, 1) := by decide +kernel
theorem dL_law_824 : decode cL_law 824 = .ok (.iadd, 1) := by decide +kernel
theorem dL_law_825 : decode cL_law 825 = .ok (.iaload, 1) := by decide +kernel
theorem dL_law_826 : decode cL_law 826 = .ok (.aload_n 0, 1) := by decide +kernel
theorem dL_law_827 : decode cL_law 827 = .ok (.iload_n 3, 1) := by decide +kernel
theorem dL_law_828 : decode cL_law 828 = .ok (.iconst 3, 1) := by decide +kernel
theorem dL_law_829 : decode cL_law 829 = .ok (.iadd, 1) := by decide +kernel
theorem dL_law_830 : decode cL_law 830 = .ok (.iaload, 1) := by decide +kernel
theorem dL_law_831 : decode cL_law 831 = .ok (.invokevirtual 105, 3) := by decide +kernel
theorem dL_law_834 : decode cL_law 834 = .ok (.if_icmp .eq 294, 3) := by decide +kernel
theorem dL_law_837 : decode cL_law 837 = .ok (.iconst 0, 1) := by decide +kernel
theorem dL_law_838 : decode cL_law 838 = .ok (.ireturn, 1) := by decide +kernel
theorem dL_law_839 : decode cL_law 839 = .ok (.aload_n 1, 1) := by decide +kernel
theorem dL_law_840 : decode cL_law 840 = .ok (.aload_n 0, 1) := by decide +kernel
theorem dL_law_841 : decode cL_law 841 = .ok (.iload_n 3, 1) := by decide +kernel
theorem dL_law_842 : decode cL_law 842 = .ok (.iconst 1, 1) := by decide +kernel
theorem dL_law_843 : decode cL_law 843 = .ok (.iadd, 1) := by decide +kernel
theorem dL_law_844 : decode cL_law 844 = .ok (.iaload, 1) := by decide +kernel
theorem dL_law_845 : decode cL_law 845 = .ok (.invokevirtual 106, 3) := by decide +kernel
theorem dL_law_848 : decode cL_law 848 = .ok (.dstore 4, 2) := by decide +kernel
theorem dL_law_850 : decode cL_law 850 = .ok (.aload_n 2, 1) := by decide +kernel
theorem dL_law_851 : decode cL_law 851 = .ok (.aload_n 0, 1) := by decide +kernel
theorem dL_law_852 : decode cL_law 852 = .ok (.iload_n 3, 1) := by decide +kernel
theorem dL_law_853 : decode cL_law 853 = .ok (.iconst 1, 1) := by decide +kernel
theorem dL_law_854 : decode cL_law 854 = .ok (.iadd, 1) := by decide +kernel
theorem dL_law_855 : decode cL_law 855 = .ok (.iaload, 1) := by decide +kernel
theorem dL_law_856 : decode cL_law 856 = .ok (.invokevirtual 110, 3) := by decide +kernel
theorem dL_law_859 : decode cL_law 859 = .ok (.dstore 6, 2) := by decide +kernel
theorem dL_law_861 : decode cL_law 861 = .ok (.dload 4, 2) := by decide +kernel
theorem dL_law_863 : decode cL_law 863 = .ok (.dload 6, 2) := by decide +kernel
theorem dL_law_865 : decode cL_law 865 = .ok (.dcmp .l, 1) := by decide +kernel
theorem dL_law_866 : decode cL_law 866 = .ok (.ifCond .eq 21, 3) := by decide +kernel
theorem dL_law_869 : decode cL_law 869 = .ok (.dload 4, 2) := by decide +kernel
theorem dL_law_871 : decode cL_law 871 = .ok (.dload 4, 2) := by decide +kernel
theorem dL_law_873 : decode cL_law 873 = .ok (.dcmp .l, 1) := by decide +kernel
theorem dL_law_874 : decode cL_law 874 = .ok (.ifCond .eq 11, 3) := by decide +kernel
theorem dL_law_877 : decode cL_law 877 = .ok (.dload 6, 2) := by decide +kernel
theorem dL_law_879 : decode cL_law 879 = .ok (.dload 6, 2) := by decide +kernel
theorem dL_law_881 : decode cL_law 881 = .ok (.dcmp .l, 1) := by decide +kernel
theorem dL_law_882 : decode cL_law 882 = .ok (.ifCond .ne 5, 3) := by decide +kernel
theorem dL_law_885 : decode cL_law 885 = .ok (.iconst 0, 1) := by decide +kernel
theorem dL_law_886 : decode cL_law 886 = .ok (.ireturn, 1) := by decide +kernel
theorem dL_law_887 : decode cL_law 887 = .ok (.goto 241, 3) := by decide +kernel
theorem dL_law_890 : decode cL_law 890 = .ok (.aload_n 1, 1) := by decide +kernel
theorem dL_law_891 : decode cL_law 891 = .ok (.aload_n 0, 1) := by decide +kernel
theorem dL_law_892 : decode cL_law 892 = .ok (.iload_n 3, 1) := by decide +kernel
theorem dL_law_893 : decode cL_law 893 = .ok (.iconst 1, 1) := by decide +kernel
theorem dL_law_894 : decode cL_law 894 = .ok (.iadd, 1) := by decide +kernel
theorem dL_law_895 : decode cL_law 895 = .ok (.iaload, 1) := by decide +kernel
theorem dL_law_896 : decode cL_law 896 = .ok (.aload_n 0, 1) := by decide +kernel
theorem dL_law_897 : decode cL_law 897 = .ok (.iload_n 3, 1) := by decide +kernel
theorem dL_law_898 : decode cL_law 898 = .ok (.iconst 2, 1) := by decide +kernel
theorem dL_law_899 : decode cL_law 899 = .ok (.iadd, 1) := by decide +kernel
theorem dL_law_900 : decode cL_law 900 = .ok (.iaload, 1) := by decide +kernel
theorem dL_law_901 : decode cL_law 901 = .ok (.invokevirtual 111, 3) := by decide +kernel
theorem dL_law_904 : decode cL_law 904 = .ok (.dstore 4, 2) := by decide +kernel
theorem dL_law_906 : decode cL_law 906 = .ok (.aload_n 2, 1) := by decide +kernel
theorem dL_law_907 : decode cL_law 907 = .ok (.aload_n 0, 1) := by decide +kernel
theorem dL_law_908 : decode cL_law 908 = .ok (.iload_n 3, 1) := by decide +kernel
theorem dL_law_909 : decode cL_law 909 = .ok (.iconst 1, 1) := by decide +kernel
theorem dL_law_910 : decode cL_law 910 = .ok (.iadd, 1) := by decide +kernel
theorem dL_law_911 : decode cL_law 911 = .ok (.iaload, 1) := by decide +kernel
theorem dL_law_912 : decode cL_law 912 = .ok (.aload_n 0, 1) := by decide +kernel
theorem dL_law_913 : decode cL_law 913 = .ok (.iload_n 3, 1) := by decide +kernel
theorem dL_law_914 : decode cL_law 914 = .ok (.iconst 2, 1) := by decide +kernel
theorem dL_law_915 : decode cL_law 915 = .ok (.iadd, 1) := by decide +kernel
theorem dL_law_916 : decode cL_law 916 = .ok (.iaload, 1) := by decide +kernel
theorem dL_law_917 : decode cL_law 917 = .ok (.invokevirtual 115, 3) := by decide +kernel
theorem dL_law_920 : decode cL_law 920 = .ok (.dstore 6, 2) := by decide +kernel
theorem dL_law_922 : decode cL_law 922 = .ok (.dload 4, 2) := by decide +kernel
theorem dL_law_924 : decode cL_law 924 = .ok (.dload 6, 2) := by decide +kernel
theorem dL_law_926 : decode cL_law 926 = .ok (.dcmp .l, 1) := by decide +kernel
theorem dL_law_927 : decode cL_law 927 = .ok (.ifCond .eq 21, 3) := by decide +kernel
theorem dL_law_930 : decode cL_law 930 = .ok (.dload 4, 2) := by decide +kernel
theorem dL_law_932 : decode cL_law 932 = .ok (.dload 4, 2) := by decide +kernel
theorem dL_law_934 : decode cL_law 934 = .ok (.dcmp .l, 1) := by decide +kernel
theorem dL_law_935 : decode cL_law 935 = .ok (.ifCond .eq 11, 3) := by decide +kernel
theorem dL_law_938 : decode cL_law 938 = .ok (.dload 6, 2) := by decide +kernel
theorem dL_law_940 : decode cL_law 940 = .ok (.dload 6, 2) := by decide +kernel
theorem dL_law_942 : decode cL_law 942 = .ok (.dcmp .l, 1) := by decide +kernel
theorem dL_law_943 : decode cL_law 943 = .ok (.ifCond .ne 5, 3) := by decide +kernel
theorem dL_law_946 : decode cL_law 946 = .ok (.iconst 0, 1) := by decide +kernel
theorem dL_law_947 : decode cL_law 947 = .ok (.ireturn, 1) := by decide +kernel
theorem dL_law_948 : decode cL_law 948 = .ok (.goto 180, 3) := by decide +kernel
theorem dL_law_951 : decode cL_law 951 = .ok (.aload_n 1, 1) := by decide +kernel
theorem dL_law_952 : decode cL_law 952 = .ok (.aload_n 0, 1) := by decide +kernel
theorem dL_law_953 : decode cL_law 953 = .ok (.iload_n 3, 1) := by decide +kernel
theorem dL_law_954 : decode cL_law 954 = .ok (.iconst 1, 1) := by decide +kernel
theorem dL_law_955 : decode cL_law 955 = .ok (.iadd, 1) := by decide +kernel
theorem dL_law_956 : decode cL_law 956 = .ok (.iaload, 1) := by decide +kernel
theorem dL_law_957 : decode cL_law 957 = .ok (.invokevirtual 116, 3) := by decide +kernel
theorem dL_law_960 : decode cL_law 960 = .ok (.dstore 4, 2) := by decide +kernel
theorem dL_law_962 : decode cL_law 962 = .ok (.aload_n 2, 1) := by decide +kernel
theorem dL_law_963 : decode cL_law 963 = .ok (.aload_n 0, 1) := by decide +kernel
theorem dL_law_964 : decode cL_law 964 = .ok (.iload_n 3, 1) := by decide +kernel
theorem dL_law_965 : decode cL_law 965 = .ok (.iconst 1, 1) := by decide +kernel
theorem dL_law_966 : decode cL_law 966 = .ok (.iadd, 1) := by decide +kernel
theorem dL_law_967 : decode cL_law 967 = .ok (.iaload, 1) := by decide +kernel
theorem dL_law_968 : decode cL_law 968 = .ok (.invokevirtual 119, 3) := by decide +kernel
theorem dL_law_971 : decode cL_law 971 = .ok (.dstore 6, 2) := by decide +kernel
theorem dL_law_973 : decode cL_law 973 = .ok (.dload 4, 2) := by decide +kernel
theorem dL_law_975 : decode cL_law 975 = .ok (.dload 6, 2) := by decide +kernel
theorem dL_law_977 : decode cL_law 977 = .ok (.dcmp .l, 1) := by decide +kernel
theorem dL_law_978 : decode cL_law 978 = .ok (.ifCond .eq 21, 3) := by decide +kernel
theorem dL_law_981 : decode cL_law 981 = .ok (.dload 4, 2) := by decide +kernel
theorem dL_law_983 : decode cL_law 983 = .ok (.dload 4, 2) := by decide +kernel
theorem dL_law_985 : decode cL_law 985 = .ok (.dcmp .l, 1) := by decide +kernel
theorem dL_law_986 : decode cL_law 986 = .ok (.ifCond .eq 11, 3) := by decide +kernel
theorem dL_law_989 : decode cL_law 989 = .ok (.dload 6, 2) := by decide +kernel
theorem dL_law_991 : decode cL_law 991 = .ok (.dload 6, 2) := by decide +kernel
theorem dL_law_993 : decode cL_law 993 = .ok (.dcmp .l, 1) := by decide +kernel
theorem dL_law_994 : decode cL_law 994 = .ok (.ifCond .ne 5, 3) := by decide +kernel
theorem dL_law_997 : decode cL_law 997 = .ok (.iconst 0, 1) := by decide +kernel
theorem dL_law_998 : decode cL_law 998 = .ok (.ireturn, 1) := by decide +kernel
theorem dL_law_999 : decode cL_law 999 = .ok (.goto 129, 3) := by decide +kernel
theorem dL_law_1002 : decode cL_law 1002 = .ok (.aload_n 1, 1) := by decide +kernel
theorem dL_law_1003 : decode cL_law 1003 = .ok (.aload_n 0, 1) := by decide +kernel
theorem dL_law_1004 : decode cL_law 1004 = .ok (.iload_n 3, 1) := by decide +kernel
theorem dL_law_1005 : decode cL_law 1005 = .ok (.iconst 1, 1) := by decide +kernel
theorem dL_law_1006 : decode cL_law 1006 = .ok (.iadd, 1) := by decide +kernel
theorem dL_law_1007 : decode cL_law 1007 = .ok (.iaload, 1) := by decide +kernel
theorem dL_law_1008 : decode cL_law 1008 = .ok (.aload_n 0, 1) := by decide +kernel
theorem dL_law_1009 : decode cL_law 1009 = .ok (.iload_n 3, 1) := by decide +kernel
theorem dL_law_1010 : decode cL_law 1010 = .ok (.iconst 2, 1) := by decide +kernel
theorem dL_law_1011 : decode cL_law 1011 = .ok (.iadd, 1) := by decide +kernel
theorem dL_law_1012 : decode cL_law 1012 = .ok (.iaload, 1) := by decide +kernel
theorem dL_law_1013 : decode cL_law 1013 = .ok (.invokevirtual 120, 3) := by decide +kernel
theorem dL_law_1016 : decode cL_law 1016 = .ok (.aload_n 2, 1) := by decide +kernel
theorem dL_law_1017 : decode cL_law 1017 = .ok (.aload_n 0, 1) := by decide +kernel
theorem dL_law_1018 : decode cL_law 1018 = .ok (.iload_n 3, 1) := by decide +kernel
theorem dL_law_1019 : decode cL_law 1019 = .ok (.iconst 1, 1) := by decide +kernel
theorem dL_law_1020 : decode cL_law 1020 = .ok (.iadd, 1) := by decide +kernel
theorem dL_law_1021 : decode cL_law 1021 = .ok (.iaload, 1) := by decide +kernel
theorem dL_law_1022 : decode cL_law 1022 = .ok (.aload_n 0, 1) := by decide +kernel
theorem dL_law_1023 : decode cL_law 1023 = .ok (.iload_n 3, 1) := by decide +kernel
theorem dL_law_1024 : decode cL_law 1024 = .ok (.iconst 2, 1) := by decide +kernel
theorem dL_law_1025 : decode cL_law 1025 = .ok (.iadd, 1) := by decide +kernel
theorem dL_law_1026 : decode cL_law 1026 = .ok (.iaload, 1) := by decide +kernel
theorem dL_law_1027 : decode cL_law 1027 = .ok (.invokevirtual 123, 3) := by decide +kernel
theorem dL_law_1030 : decode cL_law 1030 = .ok (.if_icmp .eq 98, 3) := by decide +kernel
theorem dL_law_1033 : decode cL_law 1033 = .ok (.iconst 0, 1) := by decide +kernel
theorem dL_law_1034 : decode cL_law 1034 = .ok (.ireturn, 1) := by decide +kernel
theorem dL_law_1035 : decode cL_law 1035 = .ok (.aload_n 1, 1) := by decide +kernel
theorem dL_law_1036 : decode cL_law 1036 = .ok (.aload_n 0, 1) := by decide +kernel
theorem dL_law_1037 : decode cL_law 1037 = .ok (.iload_n 3, 1) := by decide +kernel
theorem dL_law_1038 : decode cL_law 1038 = .ok (.iconst 1, 1) := by decide +kernel
theorem dL_law_1039 : decode cL_law 1039 = .ok (.iadd, 1) := by decide +kernel
theorem dL_law_1040 : decode cL_law 1040 = .ok (.iaload, 1) := by decide +kernel
theorem dL_law_1041 : decode cL_law 1041 = .ok (.invokevirtual 124, 3) := by decide +kernel
theorem dL_law_1044 : decode cL_law 1044 = .ok (.aload_n 2, 1) := by decide +kernel
theorem dL_law_1045 : decode cL_law 1045 = .ok (.aload_n 0, 1) := by decide +kernel
theorem dL_law_1046 : decode cL_law 1046 = .ok (.iload_n 3, 1) := by decide +kernel
theorem dL_law_1047 : decode cL_law 1047 = .ok (.iconst 1, 1) := by decide +kernel
theorem dL_law_1048 : decode cL_law 1048 = .ok (.iadd, 1) := by decide +kernel
theorem dL_law_1049 : decode cL_law 1049 = .ok (.iaload, 1) := by decide +kernel
theorem dL_law_1050 : decode cL_law 1050 = .ok (.invokevirtual 127, 3) := by decide +kernel
theorem dL_law_1053 : decode cL_law 1053 = .ok (.if_icmp .eq 75, 3) := by decide +kernel
theorem dL_law_1056 : decode cL_law 1056 = .ok (.iconst 0, 1) := by decide +kernel
theorem dL_law_1057 : decode cL_law 1057 = .ok (.ireturn, 1) := by decide +kernel
theorem dL_law_1058 : decode cL_law 1058 = .ok (.aload_n 1, 1) := by decide +kernel
theorem dL_law_1059 : decode cL_law 1059 = .ok (.aload_n 0, 1) := by decide +kernel
theorem dL_law_1060 : decode cL_law 1060 = .ok (.iload_n 3, 1) := by decide +kernel
theorem dL_law_1061 : decode cL_law 1061 = .ok (.iconst 1, 1) := by decide +kernel
theorem dL_law_1062 : decode cL_law 1062 = .ok (.iadd, 1) := by decide +kernel
theorem dL_law_1063 : decode cL_law 1063 = .ok (.iaload, 1) := by decide +kernel
theorem dL_law_1064 : decode cL_law 1064 = .ok (.aload_n 0, 1) := by decide +kernel
theorem dL_law_1065 : decode cL_law 1065 = .ok (.iload_n 3, 1) := by decide +kernel
theorem dL_law_1066 : decode cL_law 1066 = .ok (.iconst 2, 1) := by decide +kernel
theorem dL_law_1067 : decode cL_law 1067 = .ok (.iadd, 1) := by decide +kernel
theorem dL_law_1068 : decode cL_law 1068 = .ok (.iaload, 1) := by decide +kernel
theorem dL_law_1069 : decode cL_law 1069 = .ok (.invokevirtual 128, 3) := by decide +kernel
theorem dL_law_1072 : decode cL_law 1072 = .ok (.aload_n 2, 1) := by decide +kernel
theorem dL_law_1073 : decode cL_law 1073 = .ok (.aload_n 0, 1) := by decide +kernel
theorem dL_law_1074 : decode cL_law 1074 = .ok (.iload_n 3, 1) := by decide +kernel
theorem dL_law_1075 : decode cL_law 1075 = .ok (.iconst 1, 1) := by decide +kernel
theorem dL_law_1076 : decode cL_law 1076 = .ok (.iadd, 1) := by decide +kernel
theorem dL_law_1077 : decode cL_law 1077 = .ok (.iaload, 1) := by decide +kernel
theorem dL_law_1078 : decode cL_law 1078 = .ok (.aload_n 0, 1) := by decide +kernel
theorem dL_law_1079 : decode cL_law 1079 = .ok (.iload_n 3, 1) := by decide +kernel
theorem dL_law_1080 : decode cL_law 1080 = .ok (.iconst 2, 1) := by decide +kernel
theorem dL_law_1081 : decode cL_law 1081 = .ok (.iadd, 1) := by decide +kernel
theorem dL_law_1082 : decode cL_law 1082 = .ok (.iaload, 1) := by decide +kernel
theorem dL_law_1083 : decode cL_law 1083 = .ok (.invokevirtual 131, 3) := by decide +kernel
theorem dL_law_1086 : decode cL_law 1086 = .ok (.if_icmp .eq 42, 3) := by decide +kernel
theorem dL_law_1089 : decode cL_law 1089 = .ok (.iconst 0, 1) := by decide +kernel
theorem dL_law_1090 : decode cL_law 1090 = .ok (.ireturn, 1) := by decide +kernel
theorem dL_law_1091 : decode cL_law 1091 = .ok (.aload_n 1, 1) := by decide +kernel
theorem dL_law_1092 : decode cL_law 1092 = .ok (.aload_n 0, 1) := by decide +kernel
theorem dL_law_1093 : decode cL_law 1093 = .ok (.iload_n 3, 1) := by decide +kernel
theorem dL_law_1094 : decode cL_law 1094 = .ok (.iconst 1, 1) := by decide +kernel
theorem dL_law_1095 : decode cL_law 1095 = .ok (.iadd, 1) := by decide +kernel
theorem dL_law_1096 : decode cL_law 1096 = .ok (.iaload, 1) := by decide +kernel
theorem dL_law_1097 : decode cL_law 1097 = .ok (.invokevirtual 132, 3) := by decide +kernel
theorem dL_law_1100 : decode cL_law 1100 = .ok (.aload_n 2, 1) := by decide +kernel
theorem dL_law_1101 : decode cL_law 1101 = .ok (.aload_n 0, 1) := by decide +kernel
theorem dL_law_1102 : decode cL_law 1102 = .ok (.iload_n 3, 1) := by decide +kernel
theorem dL_law_1103 : decode cL_law 1103 = .ok (.iconst 1, 1) := by decide +kernel
theorem dL_law_1104 : decode cL_law 1104 = .ok (.iadd, 1) := by decide +kernel
theorem dL_law_1105 : decode cL_law 1105 = .ok (.iaload, 1) := by decide +kernel
theorem dL_law_1106 : decode cL_law 1106 = .ok (.invokevirtual 135, 3) := by decide +kernel
theorem dL_law_1109 : decode cL_law 1109 = .ok (.if_icmp .eq 19, 3) := by decide +kernel
theorem dL_law_1112 : decode cL_law 1112 = .ok (.iconst 0, 1) := by decide +kernel
theorem dL_law_1113 : decode cL_law 1113 = .ok (.ireturn, 1) := by decide +kernel
theorem dL_law_1114 : decode cL_law 1114 = .ok (.aload_n 1, 1) := by decide +kernel
theorem dL_law_1115 : decode cL_law 1115 = .ok (.invokevirtual 136, 3) := by decide +kernel
theorem dL_law_1118 : decode cL_law 1118 = .ok (.aload_n 2, 1) := by decide +kernel
theorem dL_law_1119 : decode cL_law 1119 = .ok (.invokevirtual 140, 3) := by decide +kernel
theorem dL_law_1122 : decode cL_law 1122 = .ok (.lcmp, 1) := by decide +kernel
theorem dL_law_1123 : decode cL_law 1123 = .ok (.ifCond .eq 5, 3) := by decide +kernel
theorem dL_law_1126 : decode cL_law 1126 = .ok (.iconst 0, 1) := by decide +kernel
theorem dL_law_1127 : decode cL_law 1127 = .ok (.ireturn, 1) := by decide +kernel
theorem dL_law_1128 : decode cL_law 1128 = .ok (.iinc 3 6, 3) := by decide +kernel
theorem dL_law_1131 : decode cL_law 1131 = .ok (.goto (-1113), 3) := by decide +kernel
theorem dL_law_1134 : decode cL_law 1134 = .ok (.iconst 1, 1) := by decide +kernel
theorem dL_law_1135 : decode cL_law 1135 = .ok (.ireturn, 1) := by decide +kernel
