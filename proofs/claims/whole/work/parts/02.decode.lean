theorem dX0_init_0 : decode cX0_init 0 = .ok (.aload_n 0, 1) := by decide +kernel
theorem dX0_init_1 : decode cX0_init 1 = .ok (.invokespecial 3, 3) := by decide +kernel
theorem dX0_init_4 : decode cX0_init 4 = .ok (.aload_n 0, 1) := by decide +kernel
theorem dX0_init_5 : decode cX0_init 5 = .ok (.iload_n 1, 1) := by decide +kernel
theorem dX0_init_6 : decode cX0_init 6 = .ok (.putfield 9, 3) := by decide +kernel
theorem dX0_init_9 : decode cX0_init 9 = .ok (.aload_n 0, 1) := by decide +kernel
theorem dX0_init_10 : decode cX0_init 10 = .ok (.iload_n 2, 1) := by decide +kernel
theorem dX0_init_11 : decode cX0_init 11 = .ok (.putfield 15, 3) := by decide +kernel
theorem dX0_init_14 : decode cX0_init 14 = .ok (.aload_n 0, 1) := by decide +kernel
theorem dX0_init_15 : decode cX0_init 15 = .ok (.aload_n 3, 1) := by decide +kernel
theorem dX0_init_16 : decode cX0_init 16 = .ok (.putfield 18, 3) := by decide +kernel
theorem dX0_init_19 : decode cX0_init 19 = .ok (.return_, 1) := by decide +kernel
theorem dX0_isShelved_0 : decode cX0_isShelved 0 = .ok (.aload_n 0, 1) := by decide +kernel
theorem dX0_isShelved_1 : decode cX0_isShelved 1 = .ok (.getfield 22, 3) := by decide +kernel
theorem dX0_isShelved_4 : decode cX0_isShelved 4 = .ok (.ifCond .eq 15, 3) := by decide +kernel
theorem dX0_isShelved_7 : decode cX0_isShelved 7 = .ok (.aload_n 0, 1) := by decide +kernel
theorem dX0_isShelved_8 : decode cX0_isShelved 8 = .ok (.getfield 15, 3) := by decide +kernel
theorem dX0_isShelved_11 : decode cX0_isShelved 11 = .ok (.iconst 3, 1) := by decide +kernel
theorem dX0_isShelved_12 : decode cX0_isShelved 12 = .ok (.if_icmp .lt 7, 3) := by decide +kernel
theorem dX0_isShelved_15 : decode cX0_isShelved 15 = .ok (.iconst 1, 1) := by decide +kernel
theorem dX0_isShelved_16 : decode cX0_isShelved 16 = .ok (.goto 4, 3) := by decide +kernel
theorem dX0_isShelved_19 : decode cX0_isShelved 19 = .ok (.iconst 0, 1) := by decide +kernel
theorem dX0_isShelved_20 : decode cX0_isShelved 20 = .ok (.ireturn, 1) := by decide +kernel
theorem dX0_isCrumb_0 : decode cX0_isCrumb 0 = .ok (.aload_n 0, 1) := by decide +kernel
theorem dX0_isCrumb_1 : decode cX0_isCrumb 1 = .ok (.getfield 22, 3) := by decide +kernel
theorem dX0_isCrumb_4 : decode cX0_isCrumb 4 = .ok (.ifCond .eq 15, 3) := by decide +kernel
theorem dX0_isCrumb_7 : decode cX0_isCrumb 7 = .ok (.aload_n 0, 1) := by decide +kernel
theorem dX0_isCrumb_8 : decode cX0_isCrumb 8 = .ok (.getfield 15, 3) := by decide +kernel
theorem dX0_isCrumb_11 : decode cX0_isCrumb 11 = .ok (.iconst 3, 1) := by decide +kernel
theorem dX0_isCrumb_12 : decode cX0_isCrumb 12 = .ok (.if_icmp .ge 7, 3) := by decide +kernel
theorem dX0_isCrumb_15 : decode cX0_isCrumb 15 = .ok (.iconst 1, 1) := by decide +kernel
theorem dX0_isCrumb_16 : decode cX0_isCrumb 16 = .ok (.goto 4, 3) := by decide +kernel
theorem dX0_isCrumb_19 : decode cX0_isCrumb 19 = .ok (.iconst 0, 1) := by decide +kernel
theorem dX0_isCrumb_20 : decode cX0_isCrumb 20 = .ok (.ireturn, 1) := by decide +kernel
theorem dX1_init_0 : decode cX1_init 0 = .ok (.aload_n 0, 1) := by decide +kernel
theorem dX1_init_1 : decode cX1_init 1 = .ok (.invokespecial 1, 3) := by decide +kernel
theorem dX1_init_4 : decode cX1_init 4 = .ok (.aload_n 0, 1) := by decide +kernel
theorem dX1_init_5 : decode cX1_init 5 = .ok (.iload_n 1, 1) := by decide +kernel
theorem dX1_init_6 : decode cX1_init 6 = .ok (.putfield 7, 3) := by decide +kernel
theorem dX1_init_9 : decode cX1_init 9 = .ok (.return_, 1) := by decide +kernel
theorem dX1_push_0 : decode cX1_push 0 = .ok (.aload_n 1, 1) := by decide +kernel
theorem dX1_push_1 : decode cX1_push 1 = .ok (.aload_n 0, 1) := by decide +kernel
theorem dX1_push_2 : decode cX1_push 2 = .ok (.getfield 13, 3) := by decide +kernel
theorem dX1_push_5 : decode cX1_push 5 = .ok (.putfield 17, 3) := by decide +kernel
theorem dX1_push_8 : decode cX1_push 8 = .ok (.aload_n 0, 1) := by decide +kernel
theorem dX1_push_9 : decode cX1_push 9 = .ok (.aload_n 1, 1) := by decide +kernel
theorem dX1_push_10 : decode cX1_push 10 = .ok (.putfield 13, 3) := by decide +kernel
theorem dX1_push_13 : decode cX1_push 13 = .ok (.return_, 1) := by decide +kernel
theorem dX1_drop_0 : decode cX1_drop 0 = .ok (.aload_n 0, 1) := by decide +kernel
theorem dX1_drop_1 : decode cX1_drop 1 = .ok (.getfield 13, 3) := by decide +kernel
theorem dX1_drop_4 : decode cX1_drop 4 = .ok (.aload_n 1, 1) := by decide +kernel
theorem dX1_drop_5 : decode cX1_drop 5 = .ok (.if_acmp .ne 11, 3) := by decide +kernel
theorem dX1_drop_8 : decode cX1_drop 8 = .ok (.aload_n 0, 1) := by decide +kernel
theorem dX1_drop_9 : decode cX1_drop 9 = .ok (.aload_n 1, 1) := by decide +kernel
theorem dX1_drop_10 : decode cX1_drop 10 = .ok (.getfield 17, 3) := by decide +kernel
theorem dX1_drop_13 : decode cX1_drop 13 = .ok (.putfield 13, 3) := by decide +kernel
theorem dX1_drop_16 : decode cX1_drop 16 = .ok (.aload_n 0, 1) := by decide +kernel
theorem dX1_drop_17 : decode cX1_drop 17 = .ok (.getfield 13, 3) := by decide +kernel
theorem dX1_drop_20 : decode cX1_drop 20 = .ok (.astore_n 2, 1) := by decide +kernel
theorem dX1_drop_21 : decode cX1_drop 21 = .ok (.aload_n 2, 1) := by decide +kernel
theorem dX1_drop_22 : decode cX1_drop 22 = .ok (.ifnull 27, 3) := by decide +kernel
theorem dX1_drop_25 : decode cX1_drop 25 = .ok (.aload_n 2, 1) := by decide +kernel
theorem dX1_drop_26 : decode cX1_drop 26 = .ok (.getfield 17, 3) := by decide +kernel
theorem dX1_drop_29 : decode cX1_drop 29 = .ok (.aload_n 1, 1) := by decide +kernel
theorem dX1_drop_30 : decode cX1_drop 30 = .ok (.if_acmp .ne 11, 3) := by decide +kernel
theorem dX1_drop_33 : decode cX1_drop 33 = .ok (.aload_n 2, 1) := by decide +kernel
theorem dX1_drop_34 : decode cX1_drop 34 = .ok (.aload_n 1, 1) := by decide +kernel
theorem dX1_drop_35 : decode cX1_drop 35 = .ok (.getfield 17, 3) := by decide +kernel
theorem dX1_drop_38 : decode cX1_drop 38 = .ok (.putfield 17, 3) := by decide +kernel
theorem dX1_drop_41 : decode cX1_drop 41 = .ok (.aload_n 2, 1) := by decide +kernel
theorem dX1_drop_42 : decode cX1_drop 42 = .ok (.getfield 17, 3) := by decide +kernel
theorem dX1_drop_45 : decode cX1_drop 45 = .ok (.astore_n 2, 1) := by decide +kernel
theorem dX1_drop_46 : decode cX1_drop 46 = .ok (.goto (-25), 3) := by decide +kernel
theorem dX1_drop_49 : decode cX1_drop 49 = .ok (.return_, 1) := by decide +kernel
theorem dX1_kthLatest_0 : decode cX1_kthLatest 0 = .ok (.aload_n 0, 1) := by decide +kernel
theorem dX1_kthLatest_1 : decode cX1_kthLatest 1 = .ok (.getfield 13, 3) := by decide +kernel
theorem dX1_kthLatest_4 : decode cX1_kthLatest 4 = .ok (.astore_n 2, 1) := by decide +kernel
theorem dX1_kthLatest_5 : decode cX1_kthLatest 5 = .ok (.iconst 0, 1) := by decide +kernel
theorem dX1_kthLatest_6 : decode cX1_kthLatest 6 = .ok (.istore_n 3, 1) := by decide +kernel
theorem dX1_kthLatest_7 : decode cX1_kthLatest 7 = .ok (.aload_n 2, 1) := by decide +kernel
theorem dX1_kthLatest_8 : decode cX1_kthLatest 8 = .ok (.ifnull 19, 3) := by decide +kernel
theorem dX1_kthLatest_11 : decode cX1_kthLatest 11 = .ok (.iload_n 3, 1) := by decide +kernel
theorem dX1_kthLatest_12 : decode cX1_kthLatest 12 = .ok (.iload_n 1, 1) := by decide +kernel
theorem dX1_kthLatest_13 : decode cX1_kthLatest 13 = .ok (.if_icmp .ge 14, 3) := by decide +kernel
theorem dX1_kthLatest_16 : decode cX1_kthLatest 16 = .ok (.aload_n 2, 1) := by decide +kernel
theorem dX1_kthLatest_17 : decode cX1_kthLatest 17 = .ok (.getfield 17, 3) := by decide +kernel
theorem dX1_kthLatest_20 : decode cX1_kthLatest 20 = .ok (.astore_n 2, 1) := by decide +kernel
theorem dX1_kthLatest_21 : decode cX1_kthLatest 21 = .ok (.iinc 3 1, 3) := by decide +kernel
theorem dX1_kthLatest_24 : decode cX1_kthLatest 24 = .ok (.goto (-17), 3) := by decide +kernel
theorem dX1_kthLatest_27 : decode cX1_kthLatest 27 = .ok (.aload_n 2, 1) := by decide +kernel
theorem dX1_kthLatest_28 : decode cX1_kthLatest 28 = .ok (.areturn, 1) := by decide +kernel
theorem dX2_init_0 : decode cX2_init 0 = .ok (.aload_n 0, 1) := by decide +kernel
theorem dX2_init_1 : decode cX2_init 1 = .ok (.invokespecial 3, 3) := by decide +kernel
theorem dX2_init_4 : decode cX2_init 4 = .ok (.aload_n 0, 1) := by decide +kernel
theorem dX2_init_5 : decode cX2_init 5 = .ok (.bipush 61, 2) := by decide +kernel
theorem dX2_init_7 : decode cX2_init 7 = .ok (.anewarray 9, 3) := by decide +kernel
theorem dX2_init_10 : decode cX2_init 10 = .ok (.putfield 11, 3) := by decide +kernel
theorem dX2_init_13 : decode cX2_init 13 = .ok (.iconst 0, 1) := by decide +kernel
theorem dX2_init_14 : decode cX2_init 14 = .ok (.istore_n 1, 1) := by decide +kernel
theorem dX2_init_15 : decode cX2_init 15 = .ok (.iload_n 1, 1) := by decide +kernel
theorem dX2_init_16 : decode cX2_init 16 = .ok (.aload_n 0, 1) := by decide +kernel
theorem dX2_init_17 : decode cX2_init 17 = .ok (.getfield 11, 3) := by decide +kernel
theorem dX2_init_20 : decode cX2_init 20 = .ok (.arraylength, 1) := by decide +kernel
theorem dX2_init_21 : decode cX2_init 21 = .ok (.if_icmp .ge 25, 3) := by decide +kernel
theorem dX2_init_24 : decode cX2_init 24 = .ok (.aload_n 0, 1) := by decide +kernel
theorem dX2_init_25 : decode cX2_init 25 = .ok (.getfield 11, 3) := by decide +kernel
theorem dX2_init_28 : decode cX2_init 28 = .ok (.iload_n 1, 1) := by decide +kernel
theorem dX2_init_29 : decode cX2_init 29 = .ok (.new 9, 3) := by decide +kernel
theorem dX2_init_32 : decode cX2_init 32 = .ok (.dup, 1) := by decide +kernel
theorem dX2_init_33 : decode cX2_init 33 = .ok (.iconst 3, 1) := by decide +kernel
theorem dX2_init_34 : decode cX2_init 34 = .ok (.iload_n 1, 1) := by decide +kernel
theorem dX2_init_35 : decode cX2_init 35 = .ok (.iadd, 1) := by decide +kernel
theorem dX2_init_36 : decode cX2_init 36 = .ok (.invokespecial 17, 3) := by decide +kernel
theorem dX2_init_39 : decode cX2_init 39 = .ok (.aastore, 1) := by decide +kernel
theorem dX2_init_40 : decode cX2_init 40 = .ok (.iinc 1 1, 3) := by decide +kernel
theorem dX2_init_43 : decode cX2_init 43 = .ok (.goto (-28), 3) := by decide +kernel
theorem dX2_init_46 : decode cX2_init 46 = .ok (.aload_n 0, 1) := by decide +kernel
theorem dX2_init_47 : decode cX2_init 47 = .ok (.new 20, 3) := by decide +kernel
theorem dX2_init_50 : decode cX2_init 50 = .ok (.dup, 1) := by decide +kernel
theorem dX2_init_51 : decode cX2_init 51 = .ok (.invokespecial 22, 3) := by decide +kernel
theorem dX2_init_54 : decode cX2_init 54 = .ok (.putfield 23, 3) := by decide +kernel
theorem dX2_init_57 : decode cX2_init 57 = .ok (.return_, 1) := by decide +kernel
theorem dX2_clear_0 : decode cX2_clear 0 = .ok (.iconst 0, 1) := by decide +kernel
theorem dX2_clear_1 : decode cX2_clear 1 = .ok (.istore_n 1, 1) := by decide +kernel
theorem dX2_clear_2 : decode cX2_clear 2 = .ok (.iload_n 1, 1) := by decide +kernel
theorem dX2_clear_3 : decode cX2_clear 3 = .ok (.aload_n 0, 1) := by decide +kernel
theorem dX2_clear_4 : decode cX2_clear 4 = .ok (.getfield 11, 3) := by decide +kernel
theorem dX2_clear_7 : decode cX2_clear 7 = .ok (.arraylength, 1) := by decide +kernel
theorem dX2_clear_8 : decode cX2_clear 8 = .ok (.if_icmp .ge 19, 3) := by decide +kernel
theorem dX2_clear_11 : decode cX2_clear 11 = .ok (.aload_n 0, 1) := by decide +kernel
theorem dX2_clear_12 : decode cX2_clear 12 = .ok (.getfield 11, 3) := by decide +kernel
theorem dX2_clear_15 : decode cX2_clear 15 = .ok (.iload_n 1, 1) := by decide +kernel
theorem dX2_clear_16 : decode cX2_clear 16 = .ok (.aaload, 1) := by decide +kernel
theorem dX2_clear_17 : decode cX2_clear 17 = .ok (.aconst_null, 1) := by decide +kernel
theorem dX2_clear_18 : decode cX2_clear 18 = .ok (.putfield 27, 3) := by decide +kernel
theorem dX2_clear_21 : decode cX2_clear 21 = .ok (.iinc 1 1, 3) := by decide +kernel
theorem dX2_clear_24 : decode cX2_clear 24 = .ok (.goto (-22), 3) := by decide +kernel
theorem dX2_clear_27 : decode cX2_clear 27 = .ok (.aload_n 0, 1) := by decide +kernel
theorem dX2_clear_28 : decode cX2_clear 28 = .ok (.getfield 23, 3) := by decide +kernel
theorem dX2_clear_31 : decode cX2_clear 31 = .ok (.aconst_null, 1) := by decide +kernel
theorem dX2_clear_32 : decode cX2_clear 32 = .ok (.putfield 31, 3) := by decide +kernel
theorem dX2_clear_35 : decode cX2_clear 35 = .ok (.return_, 1) := by decide +kernel
theorem dX2_rowOf_0 : decode cX2_rowOf 0 = .ok (.iload_n 1, 1) := by decide +kernel
theorem dX2_rowOf_1 : decode cX2_rowOf 1 = .ok (.iconst 3, 1) := by decide +kernel
theorem dX2_rowOf_2 : decode cX2_rowOf 2 = .ok (.if_icmp .ge 5, 3) := by decide +kernel
theorem dX2_rowOf_5 : decode cX2_rowOf 5 = .ok (.aconst_null, 1) := by decide +kernel
theorem dX2_rowOf_6 : decode cX2_rowOf 6 = .ok (.areturn, 1) := by decide +kernel
theorem dX2_rowOf_7 : decode cX2_rowOf 7 = .ok (.iload_n 1, 1) := by decide +kernel
theorem dX2_rowOf_8 : decode cX2_rowOf 8 = .ok (.bipush 64, 2) := by decide +kernel
theorem dX2_rowOf_10 : decode cX2_rowOf 10 = .ok (.if_icmp .ge 14, 3) := by decide +kernel
theorem dX2_rowOf_13 : decode cX2_rowOf 13 = .ok (.aload_n 0, 1) := by decide +kernel
theorem dX2_rowOf_14 : decode cX2_rowOf 14 = .ok (.getfield 11, 3) := by decide +kernel
theorem dX2_rowOf_17 : decode cX2_rowOf 17 = .ok (.iload_n 1, 1) := by decide +kernel
theorem dX2_rowOf_18 : decode cX2_rowOf 18 = .ok (.iconst 3, 1) := by decide +kernel
theorem dX2_rowOf_19 : decode cX2_rowOf 19 = .ok (.isub, 1) := by decide +kernel
theorem dX2_rowOf_20 : decode cX2_rowOf 20 = .ok (.aaload, 1) := by decide +kernel
theorem dX2_rowOf_21 : decode cX2_rowOf 21 = .ok (.goto 11, 3) := by decide +kernel
theorem dX2_rowOf_24 : decode cX2_rowOf 24 = .ok (.aload_n 0, 1) := by decide +kernel
theorem dX2_rowOf_25 : decode cX2_rowOf 25 = .ok (.getfield 23, 3) := by decide +kernel
theorem dX2_rowOf_28 : decode cX2_rowOf 28 = .ok (.iload_n 1, 1) := by decide +kernel
theorem dX2_rowOf_29 : decode cX2_rowOf 29 = .ok (.invokevirtual 35, 3) := by decide +kernel
theorem dX2_rowOf_32 : decode cX2_rowOf 32 = .ok (.areturn, 1) := by decide +kernel
theorem dX2_smallestFrom_0 : decode cX2_smallestFrom 0 = .ok (.iload_n 1, 1) := by decide +kernel
theorem dX2_smallestFrom_1 : decode cX2_smallestFrom 1 = .ok (.iconst 3, 1) := by decide +kernel
theorem dX2_smallestFrom_2 : decode cX2_smallestFrom 2 = .ok (.invokestatic 39, 3) := by decide +kernel
theorem dX2_smallestFrom_5 : decode cX2_smallestFrom 5 = .ok (.istore_n 2, 1) := by decide +kernel
theorem dX2_smallestFrom_6 : decode cX2_smallestFrom 6 = .ok (.iload_n 2, 1) := by decide +kernel
theorem dX2_smallestFrom_7 : decode cX2_smallestFrom 7 = .ok (.bipush 64, 2) := by decide +kernel
theorem dX2_smallestFrom_9 : decode cX2_smallestFrom 9 = .ok (.if_icmp .ge 30, 3) := by decide +kernel
theorem dX2_smallestFrom_12 : decode cX2_smallestFrom 12 = .ok (.aload_n 0, 1) := by decide +kernel
theorem dX2_smallestFrom_13 : decode cX2_smallestFrom 13 = .ok (.getfield 11, 3) := by decide +kernel
theorem dX2_smallestFrom_16 : decode cX2_smallestFrom 16 = .ok (.iload_n 2, 1) := by decide +kernel
theorem dX2_smallestFrom_17 : decode cX2_smallestFrom 17 = .ok (.iconst 3, 1) := by decide +kernel
theorem dX2_smallestFrom_18 : decode cX2_smallestFrom 18 = .ok (.isub, 1) := by decide +kernel
theorem dX2_smallestFrom_19 : decode cX2_smallestFrom 19 = .ok (.aaload, 1) := by decide +kernel
theorem dX2_smallestFrom_20 : decode cX2_smallestFrom 20 = .ok (.astore_n 3, 1) := by decide +kernel
theorem dX2_smallestFrom_21 : decode cX2_smallestFrom 21 = .ok (.aload_n 3, 1) := by decide +kernel
theorem dX2_smallestFrom_22 : decode cX2_smallestFrom 22 = .ok (.getfield 27, 3) := by decide +kernel
theorem dX2_smallestFrom_25 : decode cX2_smallestFrom 25 = .ok (.ifnull 8, 3) := by decide +kernel
theorem dX2_smallestFrom_28 : decode cX2_smallestFrom 28 = .ok (.aload_n 3, 1) := by decide +kernel
theorem dX2_smallestFrom_29 : decode cX2_smallestFrom 29 = .ok (.getfield 27, 3) := by decide +kernel
theorem dX2_smallestFrom_32 : decode cX2_smallestFrom 32 = .ok (.areturn, 1) := by decide +kernel
theorem dX2_smallestFrom_33 : decode cX2_smallestFrom 33 = .ok (.iinc 2 1, 3) := by decide +kernel
theorem dX2_smallestFrom_36 : decode cX2_smallestFrom 36 = .ok (.goto (-30), 3) := by decide +kernel
theorem dX2_smallestFrom_39 : decode cX2_smallestFrom 39 = .ok (.aload_n 0, 1) := by decide +kernel
theorem dX2_smallestFrom_40 : decode cX2_smallestFrom 40 = .ok (.getfield 23, 3) := by decide +kernel
theorem dX2_smallestFrom_43 : decode cX2_smallestFrom 43 = .ok (.iload_n 1, 1) := by decide +kernel
theorem dX2_smallestFrom_44 : decode cX2_smallestFrom 44 = .ok (.invokevirtual 45, 3) := by decide +kernel
theorem dX2_smallestFrom_47 : decode cX2_smallestFrom 47 = .ok (.astore_n 2, 1) := by decide +kernel
theorem dX2_smallestFrom_48 : decode cX2_smallestFrom 48 = .ok (.aload_n 2, 1) := by decide +kernel
theorem dX2_smallestFrom_49 : decode cX2_smallestFrom 49 = .ok (.ifnonnull 7, 3) := by decide +kernel
theorem dX2_smallestFrom_52 : decode cX2_smallestFrom 52 = .ok (.aconst_null, 1) := by decide +kernel
theorem dX2_smallestFrom_53 : decode cX2_smallestFrom 53 = .ok (.goto 7, 3) := by decide +kernel
theorem dX2_smallestFrom_56 : decode cX2_smallestFrom 56 = .ok (.aload_n 2, 1) := by decide +kernel
theorem dX2_smallestFrom_57 : decode cX2_smallestFrom 57 = .ok (.getfield 27, 3) := by decide +kernel
theorem dX2_smallestFrom_60 : decode cX2_smallestFrom 60 = .ok (.areturn, 1) := by decide +kernel
theorem dX2_putIn_0 : decode cX2_putIn 0 = .ok (.aload_n 1, 1) := by decide +kernel
theorem dX2_putIn_1 : decode cX2_putIn 1 = .ok (.iconst 1, 1) := by decide +kernel
theorem dX2_putIn_2 : decode cX2_putIn 2 = .ok (.putfield 48, 3) := by decide +kernel
theorem dX2_putIn_5 : decode cX2_putIn 5 = .ok (.aload_n 0, 1) := by decide +kernel
theorem dX2_putIn_6 : decode cX2_putIn 6 = .ok (.dup, 1) := by decide +kernel
theorem dX2_putIn_7 : decode cX2_putIn 7 = .ok (.getfield 54, 3) := by decide +kernel
theorem dX2_putIn_10 : decode cX2_putIn 10 = .ok (.lconst 1, 1) := by decide +kernel
theorem dX2_putIn_11 : decode cX2_putIn 11 = .ok (.ladd, 1) := by decide +kernel
theorem dX2_putIn_12 : decode cX2_putIn 12 = .ok (.putfield 54, 3) := by decide +kernel
theorem dX2_putIn_15 : decode cX2_putIn 15 = .ok (.aload_n 1, 1) := by decide +kernel
theorem dX2_putIn_16 : decode cX2_putIn 16 = .ok (.aload_n 0, 1) := by decide +kernel
theorem dX2_putIn_17 : decode cX2_putIn 17 = .ok (.getfield 54, 3) := by decide +kernel
theorem dX2_putIn_20 : decode cX2_putIn 20 = .ok (.putfield 58, 3) := by decide +kernel
theorem dX2_putIn_23 : decode cX2_putIn 23 = .ok (.aload_n 1, 1) := by decide +kernel
theorem dX2_putIn_24 : decode cX2_putIn 24 = .ok (.getfield 61, 3) := by decide +kernel
theorem dX2_putIn_27 : decode cX2_putIn 27 = .ok (.bipush 64, 2) := by decide +kernel
theorem dX2_putIn_29 : decode cX2_putIn 29 = .ok (.if_icmp .lt 21, 3) := by decide +kernel
theorem dX2_putIn_32 : decode cX2_putIn 32 = .ok (.aload_n 0, 1) := by decide +kernel
theorem dX2_putIn_33 : decode cX2_putIn 33 = .ok (.getfield 23, 3) := by decide +kernel
theorem dX2_putIn_36 : decode cX2_putIn 36 = .ok (.aload_n 1, 1) := by decide +kernel
theorem dX2_putIn_37 : decode cX2_putIn 37 = .ok (.getfield 61, 3) := by decide +kernel
theorem dX2_putIn_40 : decode cX2_putIn 40 = .ok (.invokevirtual 65, 3) := by decide +kernel
theorem dX2_putIn_43 : decode cX2_putIn 43 = .ok (.aload_n 1, 1) := by decide +kernel
theorem dX2_putIn_44 : decode cX2_putIn 44 = .ok (.invokevirtual 68, 3) := by decide +kernel
theorem dX2_putIn_47 : decode cX2_putIn 47 = .ok (.goto 26, 3) := by decide +kernel
theorem dX2_putIn_50 : decode cX2_putIn 50 = .ok (.aload_n 1, 1) := by decide +kernel
theorem dX2_putIn_51 : decode cX2_putIn 51 = .ok (.getfield 61, 3) := by decide +kernel
theorem dX2_putIn_54 : decode cX2_putIn 54 = .ok (.iconst 3, 1) := by decide +kernel
theorem dX2_putIn_55 : decode cX2_putIn 55 = .ok (.if_icmp .lt 18, 3) := by decide +kernel
theorem dX2_putIn_58 : decode cX2_putIn 58 = .ok (.aload_n 0, 1) := by decide +kernel
theorem dX2_putIn_59 : decode cX2_putIn 59 = .ok (.getfield 11, 3) := by decide +kernel
theorem dX2_putIn_62 : decode cX2_putIn 62 = .ok (.aload_n 1, 1) := by decide +kernel
theorem dX2_putIn_63 : decode cX2_putIn 63 = .ok (.getfield 61, 3) := by decide +kernel
theorem dX2_putIn_66 : decode cX2_putIn 66 = .ok (.iconst 3, 1) := by decide +kernel
theorem dX2_putIn_67 : decode cX2_putIn 67 = .ok (.isub, 1) := by decide +kernel
theorem dX2_putIn_68 : decode cX2_putIn 68 = .ok (.aaload, 1) := by decide +kernel
theorem dX2_putIn_69 : decode cX2_putIn 69 = .ok (.aload_n 1, 1) := by decide +kernel
theorem dX2_putIn_70 : decode cX2_putIn 70 = .ok (.invokevirtual 68, 3) := by decide +kernel
theorem dX2_putIn_73 : decode cX2_putIn 73 = .ok (.return_, 1) := by decide +kernel
theorem dX2_pullOut_0 : decode cX2_pullOut 0 = .ok (.aload_n 0, 1) := by decide +kernel
theorem dX2_pullOut_1 : decode cX2_pullOut 1 = .ok (.aload_n 1, 1) := by decide +kernel
theorem dX2_pullOut_2 : decode cX2_pullOut 2 = .ok (.getfield 61, 3) := by decide +kernel
theorem dX2_pullOut_5 : decode cX2_pullOut 5 = .ok (.invokevirtual 72, 3) := by decide +kernel
theorem dX2_pullOut_8 : decode cX2_pullOut 8 = .ok (.astore_n 2, 1) := by decide +kernel
theorem dX2_pullOut_9 : decode cX2_pullOut 9 = .ok (.aload_n 2, 1) := by decide +kernel
theorem dX2_pullOut_10 : decode cX2_pullOut 10 = .ok (.ifnull 32, 3) := by decide +kernel
theorem dX2_pullOut_13 : decode cX2_pullOut 13 = .ok (.aload_n 2, 1) := by decide +kernel
theorem dX2_pullOut_14 : decode cX2_pullOut 14 = .ok (.aload_n 1, 1) := by decide +kernel
theorem dX2_pullOut_15 : decode cX2_pullOut 15 = .ok (.invokevirtual 73, 3) := by decide +kernel
theorem dX2_pullOut_18 : decode cX2_pullOut 18 = .ok (.aload_n 2, 1) := by decide +kernel
theorem dX2_pullOut_19 : decode cX2_pullOut 19 = .ok (.getfield 27, 3) := by decide +kernel
theorem dX2_pullOut_22 : decode cX2_pullOut 22 = .ok (.ifnonnull 20, 3) := by decide +kernel
theorem dX2_pullOut_25 : decode cX2_pullOut 25 = .ok (.aload_n 2, 1) := by decide +kernel
theorem dX2_pullOut_26 : decode cX2_pullOut 26 = .ok (.getfield 76, 3) := by decide +kernel
theorem dX2_pullOut_29 : decode cX2_pullOut 29 = .ok (.bipush 64, 2) := by decide +kernel
theorem dX2_pullOut_31 : decode cX2_pullOut 31 = .ok (.if_icmp .lt 11, 3) := by decide +kernel
theorem dX2_pullOut_34 : decode cX2_pullOut 34 = .ok (.aload_n 0, 1) := by decide +kernel
theorem dX2_pullOut_35 : decode cX2_pullOut 35 = .ok (.getfield 23, 3) := by decide +kernel
theorem dX2_pullOut_38 : decode cX2_pullOut 38 = .ok (.aload_n 2, 1) := by decide +kernel
theorem dX2_pullOut_39 : decode cX2_pullOut 39 = .ok (.invokevirtual 77, 3) := by decide +kernel
theorem dX2_pullOut_42 : decode cX2_pullOut 42 = .ok (.aload_n 1, 1) := by decide +kernel
theorem dX2_pullOut_43 : decode cX2_pullOut 43 = .ok (.iconst 0, 1) := by decide +kernel
theorem dX2_pullOut_44 : decode cX2_pullOut 44 = .ok (.putfield 48, 3) := by decide +kernel
theorem dX2_pullOut_47 : decode cX2_pullOut 47 = .ok (.return_, 1) := by decide +kernel
theorem dX2_wrongThings_0 : decode cX2_wrongThings 0 = .ok (.iconst 0, 1) := by decide +kernel
theorem dX2_wrongThings_1 : decode cX2_wrongThings 1 = .ok (.istore_n 3, 1) := by decide +kernel
theorem dX2_wrongThings_2 : decode cX2_wrongThings 2 = .ok (.iconst 0, 1) := by decide +kernel
theorem dX2_wrongThings_3 : decode cX2_wrongThings 3 = .ok (.istore 4, 2) := by decide +kernel
theorem dX2_wrongThings_5 : decode cX2_wrongThings 5 = .ok (.iconst 0, 1) := by decide +kernel
theorem dX2_wrongThings_6 : decode cX2_wrongThings 6 = .ok (.istore 5, 2) := by decide +kernel
theorem dX2_wrongThings_8 : decode cX2_wrongThings 8 = .ok (.iload 5, 2) := by decide +kernel
theorem dX2_wrongThings_10 : decode cX2_wrongThings 10 = .ok (.aload_n 0, 1) := by decide +kernel
theorem dX2_wrongThings_11 : decode cX2_wrongThings 11 = .ok (.getfield 11, 3) := by decide +kernel
theorem dX2_wrongThings_14 : decode cX2_wrongThings 14 = .ok (.arraylength, 1) := by decide +kernel
theorem dX2_wrongThings_15 : decode cX2_wrongThings 15 = .ok (.if_icmp .ge 59, 3) := by decide +kernel
theorem dX2_wrongThings_18 : decode cX2_wrongThings 18 = .ok (.aload_n 0, 1) := by decide +kernel
theorem dX2_wrongThings_19 : decode cX2_wrongThings 19 = .ok (.getfield 11, 3) := by decide +kernel
theorem dX2_wrongThings_22 : decode cX2_wrongThings 22 = .ok (.iload 5, 2) := by decide +kernel
theorem dX2_wrongThings_24 : decode cX2_wrongThings 24 = .ok (.aaload, 1) := by decide +kernel
theorem dX2_wrongThings_25 : decode cX2_wrongThings 25 = .ok (.getfield 76, 3) := by decide +kernel
theorem dX2_wrongThings_28 : decode cX2_wrongThings 28 = .ok (.iconst 3, 1) := by decide +kernel
theorem dX2_wrongThings_29 : decode cX2_wrongThings 29 = .ok (.iload 5, 2) := by decide +kernel
theorem dX2_wrongThings_31 : decode cX2_wrongThings 31 = .ok (.iadd, 1) := by decide +kernel
theorem dX2_wrongThings_32 : decode cX2_wrongThings 32 = .ok (.if_icmp .eq 6, 3) := by decide +kernel
theorem dX2_wrongThings_35 : decode cX2_wrongThings 35 = .ok (.iinc 3 1, 3) := by decide +kernel
theorem dX2_wrongThings_38 : decode cX2_wrongThings 38 = .ok (.iload_n 3, 1) := by decide +kernel
theorem dX2_wrongThings_39 : decode cX2_wrongThings 39 = .ok (.aload_n 0, 1) := by decide +kernel
theorem dX2_wrongThings_40 : decode cX2_wrongThings 40 = .ok (.getfield 11, 3) := by decide +kernel
theorem dX2_wrongThings_43 : decode cX2_wrongThings 43 = .ok (.iload 5, 2) := by decide +kernel
theorem dX2_wrongThings_45 : decode cX2_wrongThings 45 = .ok (.aaload, 1) := by decide +kernel
theorem dX2_wrongThings_46 : decode cX2_wrongThings 46 = .ok (.iload_n 2, 1) := by decide +kernel
theorem dX2_wrongThings_47 : decode cX2_wrongThings 47 = .ok (.invokestatic 81, 3) := by decide +kernel
theorem dX2_wrongThings_50 : decode cX2_wrongThings 50 = .ok (.iadd, 1) := by decide +kernel
theorem dX2_wrongThings_51 : decode cX2_wrongThings 51 = .ok (.istore_n 3, 1) := by decide +kernel
theorem dX2_wrongThings_52 : decode cX2_wrongThings 52 = .ok (.iload 4, 2) := by decide +kernel
theorem dX2_wrongThings_54 : decode cX2_wrongThings 54 = .ok (.aload_n 0, 1) := by decide +kernel
theorem dX2_wrongThings_55 : decode cX2_wrongThings 55 = .ok (.getfield 11, 3) := by decide +kernel
theorem dX2_wrongThings_58 : decode cX2_wrongThings 58 = .ok (.iload 5, 2) := by decide +kernel
theorem dX2_wrongThings_60 : decode cX2_wrongThings 60 = .ok (.aaload, 1) := by decide +kernel
theorem dX2_wrongThings_61 : decode cX2_wrongThings 61 = .ok (.iload_n 2, 1) := by decide +kernel
theorem dX2_wrongThings_62 : decode cX2_wrongThings 62 = .ok (.invokestatic 85, 3) := by decide +kernel
theorem dX2_wrongThings_65 : decode cX2_wrongThings 65 = .ok (.iadd, 1) := by decide +kernel
theorem dX2_wrongThings_66 : decode cX2_wrongThings 66 = .ok (.istore 4, 2) := by decide +kernel
theorem dX2_wrongThings_68 : decode cX2_wrongThings 68 = .ok (.iinc 5 1, 3) := by decide +kernel
theorem dX2_wrongThings_71 : decode cX2_wrongThings 71 = .ok (.goto (-63), 3) := by decide +kernel
theorem dX2_wrongThings_74 : decode cX2_wrongThings 74 = .ok (.new 88, 3) := by decide +kernel
theorem dX2_wrongThings_77 : decode cX2_wrongThings 77 = .ok (.dup, 1) := by decide +kernel
theorem dX2_wrongThings_78 : decode cX2_wrongThings 78 = .ok (.invokespecial 90, 3) := by decide +kernel
theorem dX2_wrongThings_81 : decode cX2_wrongThings 81 = .ok (.astore 5, 2) := by decide +kernel
theorem dX2_wrongThings_83 : decode cX2_wrongThings 83 = .ok (.aload 5, 2) := by decide +kernel
theorem dX2_wrongThings_85 : decode cX2_wrongThings 85 = .ok (.aload_n 0, 1) := by decide +kernel
theorem dX2_wrongThings_86 : decode cX2_wrongThings 86 = .ok (.getfield 23, 3) := by decide +kernel
theorem dX2_wrongThings_89 : decode cX2_wrongThings 89 = .ok (.getfield 31, 3) := by decide +kernel
theorem dX2_wrongThings_92 : decode cX2_wrongThings 92 = .ok (.bipush 64, 2) := by decide +kernel
theorem dX2_wrongThings_94 : decode cX2_wrongThings 94 = .ok (.iload_n 2, 1) := by decide +kernel
theorem dX2_wrongThings_95 : decode cX2_wrongThings 95 = .ok (.invokevirtual 91, 3) := by decide +kernel
theorem dX2_wrongThings_98 : decode cX2_wrongThings 98 = .ok (.aload 5, 2) := by decide +kernel
theorem dX2_wrongThings_100 : decode cX2_wrongThings 100 = .ok (.invokevirtual 95, 3) := by decide +kernel
theorem dX2_wrongThings_103 : decode cX2_wrongThings 103 = .ok (.astore 6, 2) := by decide +kernel
theorem dX2_wrongThings_105 : decode cX2_wrongThings 105 = .ok (.iconst 0, 1) := by decide +kernel
theorem dX2_wrongThings_106 : decode cX2_wrongThings 106 = .ok (.istore 7, 2) := by decide +kernel
theorem dX2_wrongThings_108 : decode cX2_wrongThings 108 = .ok (.aload 6, 2) := by decide +kernel
theorem dX2_wrongThings_110 : decode cX2_wrongThings 110 = .ok (.ifnull 53, 3) := by decide +kernel
theorem dX2_wrongThings_113 : decode cX2_wrongThings 113 = .ok (.iload 7, 2) := by decide +kernel
theorem dX2_wrongThings_115 : decode cX2_wrongThings 115 = .ok (.iload_n 2, 1) := by decide +kernel
theorem dX2_wrongThings_116 : decode cX2_wrongThings 116 = .ok (.if_icmp .ge 47, 3) := by decide +kernel
theorem dX2_wrongThings_119 : decode cX2_wrongThings 119 = .ok (.aload 6, 2) := by decide +kernel
theorem dX2_wrongThings_121 : decode cX2_wrongThings 121 = .ok (.getfield 27, 3) := by decide +kernel
theorem dX2_wrongThings_124 : decode cX2_wrongThings 124 = .ok (.ifnonnull 6, 3) := by decide +kernel
theorem dX2_wrongThings_127 : decode cX2_wrongThings 127 = .ok (.iinc 3 1, 3) := by decide +kernel
theorem dX2_wrongThings_130 : decode cX2_wrongThings 130 = .ok (.iload_n 3, 1) := by decide +kernel
theorem dX2_wrongThings_131 : decode cX2_wrongThings 131 = .ok (.aload 6, 2) := by decide +kernel
theorem dX2_wrongThings_133 : decode cX2_wrongThings 133 = .ok (.iload_n 2, 1) := by decide +kernel
theorem dX2_wrongThings_134 : decode cX2_wrongThings 134 = .ok (.invokestatic 81, 3) := by decide +kernel
theorem dX2_wrongThings_137 : decode cX2_wrongThings 137 = .ok (.iadd, 1) := by decide +kernel
theorem dX2_wrongThings_138 : decode cX2_wrongThings 138 = .ok (.istore_n 3, 1) := by decide +kernel
theorem dX2_wrongThings_139 : decode cX2_wrongThings 139 = .ok (.iload 4, 2) := by decide +kernel
theorem dX2_wrongThings_141 : decode cX2_wrongThings 141 = .ok (.aload 6, 2) := by decide +kernel
theorem dX2_wrongThings_143 : decode cX2_wrongThings 143 = .ok (.iload_n 2, 1) := by decide +kernel
theorem dX2_wrongThings_144 : decode cX2_wrongThings 144 = .ok (.invokestatic 85, 3) := by decide +kernel
theorem dX2_wrongThings_147 : decode cX2_wrongThings 147 = .ok (.iadd, 1) := by decide +kernel
theorem dX2_wrongThings_148 : decode cX2_wrongThings 148 = .ok (.istore 4, 2) := by decide +kernel
theorem dX2_wrongThings_150 : decode cX2_wrongThings 150 = .ok (.aload 5, 2) := by decide +kernel
theorem dX2_wrongThings_152 : decode cX2_wrongThings 152 = .ok (.invokevirtual 95, 3) := by decide +kernel
theorem dX2_wrongThings_155 : decode cX2_wrongThings 155 = .ok (.astore 6, 2) := by decide +kernel
theorem dX2_wrongThings_157 : decode cX2_wrongThings 157 = .ok (.iinc 7 1, 3) := by decide +kernel
theorem dX2_wrongThings_160 : decode cX2_wrongThings 160 = .ok (.goto (-52), 3) := by decide +kernel
theorem dX2_wrongThings_163 : decode cX2_wrongThings 163 = .ok (.iload_n 3, 1) := by decide +kernel
theorem dX2_wrongThings_164 : decode cX2_wrongThings 164 = .ok (.aload 5, 2) := by decide +kernel
theorem dX2_wrongThings_166 : decode cX2_wrongThings 166 = .ok (.getfield 99, 3) := by decide +kernel
theorem dX2_wrongThings_169 : decode cX2_wrongThings 169 = .ok (.iadd, 1) := by decide +kernel
theorem dX2_wrongThings_170 : decode cX2_wrongThings 170 = .ok (.istore_n 3, 1) := by decide +kernel
theorem dX2_wrongThings_171 : decode cX2_wrongThings 171 = .ok (.iload 4, 2) := by decide +kernel
theorem dX2_wrongThings_173 : decode cX2_wrongThings 173 = .ok (.iload_n 1, 1) := by decide +kernel
theorem dX2_wrongThings_174 : decode cX2_wrongThings 174 = .ok (.if_icmp .ne 7, 3) := by decide +kernel
theorem dX2_wrongThings_177 : decode cX2_wrongThings 177 = .ok (.iload_n 3, 1) := by decide +kernel
theorem dX2_wrongThings_178 : decode cX2_wrongThings 178 = .ok (.goto 6, 3) := by decide +kernel
theorem dX2_wrongThings_181 : decode cX2_wrongThings 181 = .ok (.iload_n 3, 1) := by decide +kernel
theorem dX2_wrongThings_182 : decode cX2_wrongThings 182 = .ok (.iconst 1, 1) := by decide +kernel
theorem dX2_wrongThings_183 : decode cX2_wrongThings 183 = .ok (.iadd, 1) := by decide +kernel
theorem dX2_wrongThings_184 : decode cX2_wrongThings 184 = .ok (.ireturn, 1) := by decide +kernel
theorem dX2_wrongInRow_0 : decode cX2_wrongInRow 0 = .ok (.iconst 0, 1) := by decide +kernel
theorem dX2_wrongInRow_1 : decode cX2_wrongInRow 1 = .ok (.istore_n 2, 1) := by decide +kernel
theorem dX2_wrongInRow_2 : decode cX2_wrongInRow 2 = .ok (.aload_n 0, 1) := by decide +kernel
theorem dX2_wrongInRow_3 : decode cX2_wrongInRow 3 = .ok (.getfield 27, 3) := by decide +kernel
theorem dX2_wrongInRow_6 : decode cX2_wrongInRow 6 = .ok (.astore_n 3, 1) := by decide +kernel
theorem dX2_wrongInRow_7 : decode cX2_wrongInRow 7 = .ok (.iconst 0, 1) := by decide +kernel
theorem dX2_wrongInRow_8 : decode cX2_wrongInRow 8 = .ok (.istore 4, 2) := by decide +kernel
theorem dX2_wrongInRow_10 : decode cX2_wrongInRow 10 = .ok (.aload_n 3, 1) := by decide +kernel
theorem dX2_wrongInRow_11 : decode cX2_wrongInRow 11 = .ok (.ifnull 71, 3) := by decide +kernel
theorem dX2_wrongInRow_14 : decode cX2_wrongInRow 14 = .ok (.iload 4, 2) := by decide +kernel
theorem dX2_wrongInRow_16 : decode cX2_wrongInRow 16 = .ok (.iload_n 1, 1) := by decide +kernel
theorem dX2_wrongInRow_17 : decode cX2_wrongInRow 17 = .ok (.if_icmp .ge 65, 3) := by decide +kernel
theorem dX2_wrongInRow_20 : decode cX2_wrongInRow 20 = .ok (.aload_n 3, 1) := by decide +kernel
theorem dX2_wrongInRow_21 : decode cX2_wrongInRow 21 = .ok (.getfield 102, 3) := by decide +kernel
theorem dX2_wrongInRow_24 : decode cX2_wrongInRow 24 = .ok (.ifCond .eq 14, 3) := by decide +kernel
theorem dX2_wrongInRow_27 : decode cX2_wrongInRow 27 = .ok (.aload_n 3, 1) := by decide +kernel
theorem dX2_wrongInRow_28 : decode cX2_wrongInRow 28 = .ok (.getfield 61, 3) := by decide +kernel
theorem dX2_wrongInRow_31 : decode cX2_wrongInRow 31 = .ok (.aload_n 0, 1) := by decide +kernel
theorem dX2_wrongInRow_32 : decode cX2_wrongInRow 32 = .ok (.getfield 76, 3) := by decide +kernel
theorem dX2_wrongInRow_35 : decode cX2_wrongInRow 35 = .ok (.if_icmp .eq 6, 3) := by decide +kernel
theorem dX2_wrongInRow_38 : decode cX2_wrongInRow 38 = .ok (.iinc 2 1, 3) := by decide +kernel
theorem dX2_wrongInRow_41 : decode cX2_wrongInRow 41 = .ok (.aload_n 3, 1) := by decide +kernel
theorem dX2_wrongInRow_42 : decode cX2_wrongInRow 42 = .ok (.getfield 105, 3) := by decide +kernel
theorem dX2_wrongInRow_45 : decode cX2_wrongInRow 45 = .ok (.ifnull 21, 3) := by decide +kernel
theorem dX2_wrongInRow_48 : decode cX2_wrongInRow 48 = .ok (.aload_n 3, 1) := by decide +kernel
theorem dX2_wrongInRow_49 : decode cX2_wrongInRow 49 = .ok (.getfield 105, 3) := by decide +kernel
theorem dX2_wrongInRow_52 : decode cX2_wrongInRow 52 = .ok (.getfield 58, 3) := by decide +kernel
theorem dX2_wrongInRow_55 : decode cX2_wrongInRow 55 = .ok (.aload_n 3, 1) := by decide +kernel
theorem dX2_wrongInRow_56 : decode cX2_wrongInRow 56 = .ok (.getfield 58, 3) := by decide +kernel
theorem dX2_wrongInRow_59 : decode cX2_wrongInRow 59 = .ok (.lcmp, 1) := by decide +kernel
theorem dX2_wrongInRow_60 : decode cX2_wrongInRow 60 = .ok (.ifCond .lt 6, 3) := by decide +kernel
theorem dX2_wrongInRow_63 : decode cX2_wrongInRow 63 = .ok (.iinc 2 1, 3) := by decide +kernel
theorem dX2_wrongInRow_66 : decode cX2_wrongInRow 66 = .ok (.aload_n 3, 1) := by decide +kernel
theorem dX2_wrongInRow_67 : decode cX2_wrongInRow 67 = .ok (.iconst 0, 1) := by decide +kernel
theorem dX2_wrongInRow_68 : decode cX2_wrongInRow 68 = .ok (.putfield 102, 3) := by decide +kernel
theorem dX2_wrongInRow_71 : decode cX2_wrongInRow 71 = .ok (.aload_n 3, 1) := by decide +kernel
theorem dX2_wrongInRow_72 : decode cX2_wrongInRow 72 = .ok (.getfield 105, 3) := by decide +kernel
theorem dX2_wrongInRow_75 : decode cX2_wrongInRow 75 = .ok (.astore_n 3, 1) := by decide +kernel
theorem dX2_wrongInRow_76 : decode cX2_wrongInRow 76 = .ok (.iinc 4 1, 3) := by decide +kernel
theorem dX2_wrongInRow_79 : decode cX2_wrongInRow 79 = .ok (.goto (-69), 3) := by decide +kernel
theorem dX2_wrongInRow_82 : decode cX2_wrongInRow 82 = .ok (.iload_n 2, 1) := by decide +kernel
theorem dX2_wrongInRow_83 : decode cX2_wrongInRow 83 = .ok (.ireturn, 1) := by decide +kernel
theorem dX2_piecesIn_0 : decode cX2_piecesIn 0 = .ok (.iconst 0, 1) := by decide +kernel
theorem dX2_piecesIn_1 : decode cX2_piecesIn 1 = .ok (.istore_n 2, 1) := by decide +kernel
theorem dX2_piecesIn_2 : decode cX2_piecesIn 2 = .ok (.aload_n 0, 1) := by decide +kernel
theorem dX2_piecesIn_3 : decode cX2_piecesIn 3 = .ok (.getfield 27, 3) := by decide +kernel
theorem dX2_piecesIn_6 : decode cX2_piecesIn 6 = .ok (.astore_n 3, 1) := by decide +kernel
theorem dX2_piecesIn_7 : decode cX2_piecesIn 7 = .ok (.aload_n 3, 1) := by decide +kernel
theorem dX2_piecesIn_8 : decode cX2_piecesIn 8 = .ok (.ifnull 19, 3) := by decide +kernel
theorem dX2_piecesIn_11 : decode cX2_piecesIn 11 = .ok (.iload_n 2, 1) := by decide +kernel
theorem dX2_piecesIn_12 : decode cX2_piecesIn 12 = .ok (.iload_n 1, 1) := by decide +kernel
theorem dX2_piecesIn_13 : decode cX2_piecesIn 13 = .ok (.if_icmp .ge 14, 3) := by decide +kernel
theorem dX2_piecesIn_16 : decode cX2_piecesIn 16 = .ok (.iinc 2 1, 3) := by decide +kernel
theorem dX2_piecesIn_19 : decode cX2_piecesIn 19 = .ok (.aload_n 3, 1) := by decide +kernel
theorem dX2_piecesIn_20 : decode cX2_piecesIn 20 = .ok (.getfield 105, 3) := by decide +kernel
theorem dX2_piecesIn_23 : decode cX2_piecesIn 23 = .ok (.astore_n 3, 1) := by decide +kernel
theorem dX2_piecesIn_24 : decode cX2_piecesIn 24 = .ok (.goto (-17), 3) := by decide +kernel
theorem dX2_piecesIn_27 : decode cX2_piecesIn 27 = .ok (.iload_n 2, 1) := by decide +kernel
theorem dX2_piecesIn_28 : decode cX2_piecesIn 28 = .ok (.ireturn, 1) := by decide +kernel
theorem dX3_init_0 : decode cX3_init 0 = .ok (.aload_n 0, 1) := by decide +kernel
theorem dX3_init_1 : decode cX3_init 1 = .ok (.invokespecial 1, 3) := by decide +kernel
theorem dX3_init_4 : decode cX3_init 4 = .ok (.return_, 1) := by decide +kernel
theorem dX3_rowOf_0 : decode cX3_rowOf 0 = .ok (.aload_n 0, 1) := by decide +kernel
theorem dX3_rowOf_1 : decode cX3_rowOf 1 = .ok (.getfield 7, 3) := by decide +kernel
theorem dX3_rowOf_4 : decode cX3_rowOf 4 = .ok (.astore_n 2, 1) := by decide +kernel
theorem dX3_rowOf_5 : decode cX3_rowOf 5 = .ok (.aload_n 2, 1) := by decide +kernel
theorem dX3_rowOf_6 : decode cX3_rowOf 6 = .ok (.ifnull 34, 3) := by decide +kernel
theorem dX3_rowOf_9 : decode cX3_rowOf 9 = .ok (.aload_n 2, 1) := by decide +kernel
theorem dX3_rowOf_10 : decode cX3_rowOf 10 = .ok (.getfield 13, 3) := by decide +kernel
theorem dX3_rowOf_13 : decode cX3_rowOf 13 = .ok (.iload_n 1, 1) := by decide +kernel
theorem dX3_rowOf_14 : decode cX3_rowOf 14 = .ok (.if_icmp .eq 26, 3) := by decide +kernel
theorem dX3_rowOf_17 : decode cX3_rowOf 17 = .ok (.iload_n 1, 1) := by decide +kernel
theorem dX3_rowOf_18 : decode cX3_rowOf 18 = .ok (.aload_n 2, 1) := by decide +kernel
theorem dX3_rowOf_19 : decode cX3_rowOf 19 = .ok (.getfield 13, 3) := by decide +kernel
theorem dX3_rowOf_22 : decode cX3_rowOf 22 = .ok (.if_icmp .ge 10, 3) := by decide +kernel
theorem dX3_rowOf_25 : decode cX3_rowOf 25 = .ok (.aload_n 2, 1) := by decide +kernel
theorem dX3_rowOf_26 : decode cX3_rowOf 26 = .ok (.getfield 19, 3) := by decide +kernel
theorem dX3_rowOf_29 : decode cX3_rowOf 29 = .ok (.goto 7, 3) := by decide +kernel
theorem dX3_rowOf_32 : decode cX3_rowOf 32 = .ok (.aload_n 2, 1) := by decide +kernel
theorem dX3_rowOf_33 : decode cX3_rowOf 33 = .ok (.getfield 22, 3) := by decide +kernel
theorem dX3_rowOf_36 : decode cX3_rowOf 36 = .ok (.astore_n 2, 1) := by decide +kernel
theorem dX3_rowOf_37 : decode cX3_rowOf 37 = .ok (.goto (-32), 3) := by decide +kernel
theorem dX3_rowOf_40 : decode cX3_rowOf 40 = .ok (.aload_n 2, 1) := by decide +kernel
theorem dX3_rowOf_41 : decode cX3_rowOf 41 = .ok (.areturn, 1) := by decide +kernel
theorem dX3_leastFrom_0 : decode cX3_leastFrom 0 = .ok (.aconst_null, 1) := by decide +kernel
theorem dX3_leastFrom_1 : decode cX3_leastFrom 1 = .ok (.astore_n 2, 1) := by decide +kernel
theorem dX3_leastFrom_2 : decode cX3_leastFrom 2 = .ok (.aload_n 0, 1) := by decide +kernel
theorem dX3_leastFrom_3 : decode cX3_leastFrom 3 = .ok (.getfield 7, 3) := by decide +kernel
theorem dX3_leastFrom_6 : decode cX3_leastFrom 6 = .ok (.astore_n 3, 1) := by decide +kernel
theorem dX3_leastFrom_7 : decode cX3_leastFrom 7 = .ok (.aload_n 3, 1) := by decide +kernel
theorem dX3_leastFrom_8 : decode cX3_leastFrom 8 = .ok (.ifnull 29, 3) := by decide +kernel
theorem dX3_leastFrom_11 : decode cX3_leastFrom 11 = .ok (.aload_n 3, 1) := by decide +kernel
theorem dX3_leastFrom_12 : decode cX3_leastFrom 12 = .ok (.getfield 13, 3) := by decide +kernel
theorem dX3_leastFrom_15 : decode cX3_leastFrom 15 = .ok (.iload_n 1, 1) := by decide +kernel
theorem dX3_leastFrom_16 : decode cX3_leastFrom 16 = .ok (.if_icmp .lt 13, 3) := by decide +kernel
theorem dX3_leastFrom_19 : decode cX3_leastFrom 19 = .ok (.aload_n 3, 1) := by decide +kernel
theorem dX3_leastFrom_20 : decode cX3_leastFrom 20 = .ok (.astore_n 2, 1) := by decide +kernel
theorem dX3_leastFrom_21 : decode cX3_leastFrom 21 = .ok (.aload_n 3, 1) := by decide +kernel
theorem dX3_leastFrom_22 : decode cX3_leastFrom 22 = .ok (.getfield 19, 3) := by decide +kernel
theorem dX3_leastFrom_25 : decode cX3_leastFrom 25 = .ok (.astore_n 3, 1) := by decide +kernel
theorem dX3_leastFrom_26 : decode cX3_leastFrom 26 = .ok (.goto (-19), 3) := by decide +kernel
theorem dX3_leastFrom_29 : decode cX3_leastFrom 29 = .ok (.aload_n 3, 1) := by decide +kernel
theorem dX3_leastFrom_30 : decode cX3_leastFrom 30 = .ok (.getfield 22, 3) := by decide +kernel
theorem dX3_leastFrom_33 : decode cX3_leastFrom 33 = .ok (.astore_n 3, 1) := by decide +kernel
theorem dX3_leastFrom_34 : decode cX3_leastFrom 34 = .ok (.goto (-27), 3) := by decide +kernel
theorem dX3_leastFrom_37 : decode cX3_leastFrom 37 = .ok (.aload_n 2, 1) := by decide +kernel
theorem dX3_leastFrom_38 : decode cX3_leastFrom 38 = .ok (.areturn, 1) := by decide +kernel
theorem dX3_rowMadeFor_0 : decode cX3_rowMadeFor 0 = .ok (.aload_n 0, 1) := by decide +kernel
theorem dX3_rowMadeFor_1 : decode cX3_rowMadeFor 1 = .ok (.iload_n 1, 1) := by decide +kernel
theorem dX3_rowMadeFor_2 : decode cX3_rowMadeFor 2 = .ok (.invokevirtual 25, 3) := by decide +kernel
theorem dX3_rowMadeFor_5 : decode cX3_rowMadeFor 5 = .ok (.astore_n 2, 1) := by decide +kernel
theorem dX3_rowMadeFor_6 : decode cX3_rowMadeFor 6 = .ok (.aload_n 2, 1) := by decide +kernel
theorem dX3_rowMadeFor_7 : decode cX3_rowMadeFor 7 = .ok (.ifnonnull 23, 3) := by decide +kernel
theorem dX3_rowMadeFor_10 : decode cX3_rowMadeFor 10 = .ok (.new 14, 3) := by decide +kernel
theorem dX3_rowMadeFor_13 : decode cX3_rowMadeFor 13 = .ok (.dup, 1) := by decide +kernel
theorem dX3_rowMadeFor_14 : decode cX3_rowMadeFor 14 = .ok (.iload_n 1, 1) := by decide +kernel
theorem dX3_rowMadeFor_15 : decode cX3_rowMadeFor 15 = .ok (.invokespecial 29, 3) := by decide +kernel
theorem dX3_rowMadeFor_18 : decode cX3_rowMadeFor 18 = .ok (.astore_n 2, 1) := by decide +kernel
theorem dX3_rowMadeFor_19 : decode cX3_rowMadeFor 19 = .ok (.aload_n 0, 1) := by decide +kernel
theorem dX3_rowMadeFor_20 : decode cX3_rowMadeFor 20 = .ok (.aload_n 0, 1) := by decide +kernel
theorem dX3_rowMadeFor_21 : decode cX3_rowMadeFor 21 = .ok (.iload_n 1, 1) := by decide +kernel
theorem dX3_rowMadeFor_22 : decode cX3_rowMadeFor 22 = .ok (.invokevirtual 32, 3) := by decide +kernel
theorem dX3_rowMadeFor_25 : decode cX3_rowMadeFor 25 = .ok (.iload_n 1, 1) := by decide +kernel
theorem dX3_rowMadeFor_26 : decode cX3_rowMadeFor 26 = .ok (.aload_n 2, 1) := by decide +kernel
theorem dX3_rowMadeFor_27 : decode cX3_rowMadeFor 27 = .ok (.invokevirtual 35, 3) := by decide +kernel
theorem dX3_rowMadeFor_30 : decode cX3_rowMadeFor 30 = .ok (.aload_n 2, 1) := by decide +kernel
theorem dX3_rowMadeFor_31 : decode cX3_rowMadeFor 31 = .ok (.areturn, 1) := by decide +kernel
theorem dX3_remove_0 : decode cX3_remove 0 = .ok (.aload_n 0, 1) := by decide +kernel
theorem dX3_remove_1 : decode cX3_remove 1 = .ok (.aload_n 0, 1) := by decide +kernel
theorem dX3_remove_2 : decode cX3_remove 2 = .ok (.aload_n 1, 1) := by decide +kernel
theorem dX3_remove_3 : decode cX3_remove 3 = .ok (.getfield 13, 3) := by decide +kernel
theorem dX3_remove_6 : decode cX3_remove 6 = .ok (.invokevirtual 32, 3) := by decide +kernel
theorem dX3_remove_9 : decode cX3_remove 9 = .ok (.aload_n 1, 1) := by decide +kernel
theorem dX3_remove_10 : decode cX3_remove 10 = .ok (.getfield 13, 3) := by decide +kernel
theorem dX3_remove_13 : decode cX3_remove 13 = .ok (.aload_n 1, 1) := by decide +kernel
theorem dX3_remove_14 : decode cX3_remove 14 = .ok (.invokestatic 39, 3) := by decide +kernel
theorem dX3_remove_17 : decode cX3_remove 17 = .ok (.invokevirtual 35, 3) := by decide +kernel
theorem dX3_remove_20 : decode cX3_remove 20 = .ok (.return_, 1) := by decide +kernel
theorem dX3_parentFor_0 : decode cX3_parentFor 0 = .ok (.aconst_null, 1) := by decide +kernel
theorem dX3_parentFor_1 : decode cX3_parentFor 1 = .ok (.astore_n 2, 1) := by decide +kernel
theorem dX3_parentFor_2 : decode cX3_parentFor 2 = .ok (.aload_n 0, 1) := by decide +kernel
theorem dX3_parentFor_3 : decode cX3_parentFor 3 = .ok (.getfield 7, 3) := by decide +kernel
theorem dX3_parentFor_6 : decode cX3_parentFor 6 = .ok (.astore_n 3, 1) := by decide +kernel
theorem dX3_parentFor_7 : decode cX3_parentFor 7 = .ok (.aload_n 3, 1) := by decide +kernel
theorem dX3_parentFor_8 : decode cX3_parentFor 8 = .ok (.ifnull 36, 3) := by decide +kernel
theorem dX3_parentFor_11 : decode cX3_parentFor 11 = .ok (.aload_n 3, 1) := by decide +kernel
theorem dX3_parentFor_12 : decode cX3_parentFor 12 = .ok (.getfield 13, 3) := by decide +kernel
theorem dX3_parentFor_15 : decode cX3_parentFor 15 = .ok (.iload_n 1, 1) := by decide +kernel
theorem dX3_parentFor_16 : decode cX3_parentFor 16 = .ok (.if_icmp .eq 28, 3) := by decide +kernel
theorem dX3_parentFor_19 : decode cX3_parentFor 19 = .ok (.aload_n 3, 1) := by decide +kernel
theorem dX3_parentFor_20 : decode cX3_parentFor 20 = .ok (.astore_n 2, 1) := by decide +kernel
theorem dX3_parentFor_21 : decode cX3_parentFor 21 = .ok (.iload_n 1, 1) := by decide +kernel
theorem dX3_parentFor_22 : decode cX3_parentFor 22 = .ok (.aload_n 3, 1) := by decide +kernel
theorem dX3_parentFor_23 : decode cX3_parentFor 23 = .ok (.getfield 13, 3) := by decide +kernel
theorem dX3_parentFor_26 : decode cX3_parentFor 26 = .ok (.if_icmp .ge 10, 3) := by decide +kernel
theorem dX3_parentFor_29 : decode cX3_parentFor 29 = .ok (.aload_n 3, 1) := by decide +kernel
theorem dX3_parentFor_30 : decode cX3_parentFor 30 = .ok (.getfield 19, 3) := by decide +kernel
theorem dX3_parentFor_33 : decode cX3_parentFor 33 = .ok (.goto 7, 3) := by decide +kernel
theorem dX3_parentFor_36 : decode cX3_parentFor 36 = .ok (.aload_n 3, 1) := by decide +kernel
theorem dX3_parentFor_37 : decode cX3_parentFor 37 = .ok (.getfield 22, 3) := by decide +kernel
theorem dX3_parentFor_40 : decode cX3_parentFor 40 = .ok (.astore_n 3, 1) := by decide +kernel
theorem dX3_parentFor_41 : decode cX3_parentFor 41 = .ok (.goto (-34), 3) := by decide +kernel
theorem dX3_parentFor_44 : decode cX3_parentFor 44 = .ok (.aload_n 2, 1) := by decide +kernel
theorem dX3_parentFor_45 : decode cX3_parentFor 45 = .ok (.areturn, 1) := by decide +kernel
theorem dX3_hang_0 : decode cX3_hang 0 = .ok (.aload_n 1, 1) := by decide +kernel
theorem dX3_hang_1 : decode cX3_hang 1 = .ok (.ifnonnull 11, 3) := by decide +kernel
theorem dX3_hang_4 : decode cX3_hang 4 = .ok (.aload_n 0, 1) := by decide +kernel
theorem dX3_hang_5 : decode cX3_hang 5 = .ok (.aload_n 3, 1) := by decide +kernel
theorem dX3_hang_6 : decode cX3_hang 6 = .ok (.putfield 7, 3) := by decide +kernel
theorem dX3_hang_9 : decode cX3_hang 9 = .ok (.goto 24, 3) := by decide +kernel
theorem dX3_hang_12 : decode cX3_hang 12 = .ok (.iload_n 2, 1) := by decide +kernel
theorem dX3_hang_13 : decode cX3_hang 13 = .ok (.aload_n 1, 1) := by decide +kernel
theorem dX3_hang_14 : decode cX3_hang 14 = .ok (.getfield 13, 3) := by decide +kernel
theorem dX3_hang_17 : decode cX3_hang 17 = .ok (.if_icmp .ge 11, 3) := by decide +kernel
theorem dX3_hang_20 : decode cX3_hang 20 = .ok (.aload_n 1, 1) := by decide +kernel
theorem dX3_hang_21 : decode cX3_hang 21 = .ok (.aload_n 3, 1) := by decide +kernel
theorem dX3_hang_22 : decode cX3_hang 22 = .ok (.putfield 19, 3) := by decide +kernel
theorem dX3_hang_25 : decode cX3_hang 25 = .ok (.goto 8, 3) := by decide +kernel
theorem dX3_hang_28 : decode cX3_hang 28 = .ok (.aload_n 1, 1) := by decide +kernel
theorem dX3_hang_29 : decode cX3_hang 29 = .ok (.aload_n 3, 1) := by decide +kernel
theorem dX3_hang_30 : decode cX3_hang 30 = .ok (.putfield 22, 3) := by decide +kernel
theorem dX3_hang_33 : decode cX3_hang 33 = .ok (.return_, 1) := by decide +kernel
theorem dX3_heirOf_0 : decode cX3_heirOf 0 = .ok (.aload_n 0, 1) := by decide +kernel
theorem dX3_heirOf_1 : decode cX3_heirOf 1 = .ok (.getfield 22, 3) := by decide +kernel
theorem dX3_heirOf_4 : decode cX3_heirOf 4 = .ok (.ifnonnull 8, 3) := by decide +kernel
theorem dX3_heirOf_7 : decode cX3_heirOf 7 = .ok (.aload_n 0, 1) := by decide +kernel
theorem dX3_heirOf_8 : decode cX3_heirOf 8 = .ok (.getfield 19, 3) := by decide +kernel
theorem dX3_heirOf_11 : decode cX3_heirOf 11 = .ok (.areturn, 1) := by decide +kernel
theorem dX3_heirOf_12 : decode cX3_heirOf 12 = .ok (.aload_n 0, 1) := by decide +kernel
theorem dX3_heirOf_13 : decode cX3_heirOf 13 = .ok (.getfield 22, 3) := by decide +kernel
theorem dX3_heirOf_16 : decode cX3_heirOf 16 = .ok (.astore_n 1, 1) := by decide +kernel
theorem dX3_heirOf_17 : decode cX3_heirOf 17 = .ok (.aload_n 1, 1) := by decide +kernel
theorem dX3_heirOf_18 : decode cX3_heirOf 18 = .ok (.getfield 19, 3) := by decide +kernel
theorem dX3_heirOf_21 : decode cX3_heirOf 21 = .ok (.ifnull 11, 3) := by decide +kernel
theorem dX3_heirOf_24 : decode cX3_heirOf 24 = .ok (.aload_n 1, 1) := by decide +kernel
theorem dX3_heirOf_25 : decode cX3_heirOf 25 = .ok (.getfield 19, 3) := by decide +kernel
theorem dX3_heirOf_28 : decode cX3_heirOf 28 = .ok (.astore_n 1, 1) := by decide +kernel
theorem dX3_heirOf_29 : decode cX3_heirOf 29 = .ok (.goto (-12), 3) := by decide +kernel
theorem dX3_heirOf_32 : decode cX3_heirOf 32 = .ok (.aload_n 1, 1) := by decide +kernel
theorem dX3_heirOf_33 : decode cX3_heirOf 33 = .ok (.aload_n 0, 1) := by decide +kernel
theorem dX3_heirOf_34 : decode cX3_heirOf 34 = .ok (.getfield 19, 3) := by decide +kernel
theorem dX3_heirOf_37 : decode cX3_heirOf 37 = .ok (.putfield 19, 3) := by decide +kernel
theorem dX3_heirOf_40 : decode cX3_heirOf 40 = .ok (.aload_n 0, 1) := by decide +kernel
theorem dX3_heirOf_41 : decode cX3_heirOf 41 = .ok (.getfield 22, 3) := by decide +kernel
theorem dX3_heirOf_44 : decode cX3_heirOf 44 = .ok (.areturn, 1) := by decide +kernel
theorem dX4_init_0 : decode cX4_init 0 = .ok (.aload_n 0, 1) := by decide +kernel
theorem dX4_init_1 : decode cX4_init 1 = .ok (.invokespecial 1, 3) := by decide +kernel
theorem dX4_init_4 : decode cX4_init 4 = .ok (.return_, 1) := by decide +kernel
theorem dX4_enter_0 : decode cX4_enter 0 = .ok (.aload_n 1, 1) := by decide +kernel
theorem dX4_enter_1 : decode cX4_enter 1 = .ok (.ifnonnull 4, 3) := by decide +kernel
theorem dX4_enter_4 : decode cX4_enter 4 = .ok (.return_, 1) := by decide +kernel
theorem dX4_enter_5 : decode cX4_enter 5 = .ok (.aload_n 1, 1) := by decide +kernel
theorem dX4_enter_6 : decode cX4_enter 6 = .ok (.getfield 7, 3) := by decide +kernel
theorem dX4_enter_9 : decode cX4_enter 9 = .ok (.iload_n 2, 1) := by decide +kernel
theorem dX4_enter_10 : decode cX4_enter 10 = .ok (.if_icmp .lt 11, 3) := by decide +kernel
theorem dX4_enter_13 : decode cX4_enter 13 = .ok (.aload_n 1, 1) := by decide +kernel
theorem dX4_enter_14 : decode cX4_enter 14 = .ok (.getfield 7, 3) := by decide +kernel
theorem dX4_enter_17 : decode cX4_enter 17 = .ok (.iload_n 3, 1) := by decide +kernel
theorem dX4_enter_18 : decode cX4_enter 18 = .ok (.if_icmp .le 14, 3) := by decide +kernel
theorem dX4_enter_21 : decode cX4_enter 21 = .ok (.aload_n 0, 1) := by decide +kernel
theorem dX4_enter_22 : decode cX4_enter 22 = .ok (.dup, 1) := by decide +kernel
theorem dX4_enter_23 : decode cX4_enter 23 = .ok (.getfield 13, 3) := by decide +kernel
theorem dX4_enter_26 : decode cX4_enter 26 = .ok (.iconst 1, 1) := by decide +kernel
theorem dX4_enter_27 : decode cX4_enter 27 = .ok (.iadd, 1) := by decide +kernel
theorem dX4_enter_28 : decode cX4_enter 28 = .ok (.putfield 13, 3) := by decide +kernel
theorem dX4_enter_31 : decode cX4_enter 31 = .ok (.return_, 1) := by decide +kernel
theorem dX4_enter_32 : decode cX4_enter 32 = .ok (.aload_n 1, 1) := by decide +kernel
theorem dX4_enter_33 : decode cX4_enter 33 = .ok (.iload_n 2, 1) := by decide +kernel
theorem dX4_enter_34 : decode cX4_enter 34 = .ok (.putfield 18, 3) := by decide +kernel
theorem dX4_enter_37 : decode cX4_enter 37 = .ok (.aload_n 1, 1) := by decide +kernel
theorem dX4_enter_38 : decode cX4_enter 38 = .ok (.iload_n 3, 1) := by decide +kernel
theorem dX4_enter_39 : decode cX4_enter 39 = .ok (.putfield 21, 3) := by decide +kernel
theorem dX4_enter_42 : decode cX4_enter 42 = .ok (.aload_n 1, 1) := by decide +kernel
theorem dX4_enter_43 : decode cX4_enter 43 = .ok (.aload_n 0, 1) := by decide +kernel
theorem dX4_enter_44 : decode cX4_enter 44 = .ok (.getfield 24, 3) := by decide +kernel
theorem dX4_enter_47 : decode cX4_enter 47 = .ok (.putfield 28, 3) := by decide +kernel
theorem dX4_enter_50 : decode cX4_enter 50 = .ok (.aload_n 0, 1) := by decide +kernel
theorem dX4_enter_51 : decode cX4_enter 51 = .ok (.aload_n 1, 1) := by decide +kernel
theorem dX4_enter_52 : decode cX4_enter 52 = .ok (.putfield 24, 3) := by decide +kernel
theorem dX4_enter_55 : decode cX4_enter 55 = .ok (.return_, 1) := by decide +kernel
theorem dX4_next_0 : decode cX4_next 0 = .ok (.aload_n 0, 1) := by decide +kernel
theorem dX4_next_1 : decode cX4_next 1 = .ok (.getfield 24, 3) := by decide +kernel
theorem dX4_next_4 : decode cX4_next 4 = .ok (.astore_n 1, 1) := by decide +kernel
theorem dX4_next_5 : decode cX4_next 5 = .ok (.aload_n 1, 1) := by decide +kernel
theorem dX4_next_6 : decode cX4_next 6 = .ok (.ifnull 47, 3) := by decide +kernel
theorem dX4_next_9 : decode cX4_next 9 = .ok (.aload_n 0, 1) := by decide +kernel
theorem dX4_next_10 : decode cX4_next 10 = .ok (.aload_n 1, 1) := by decide +kernel
theorem dX4_next_11 : decode cX4_next 11 = .ok (.getfield 28, 3) := by decide +kernel
theorem dX4_next_14 : decode cX4_next 14 = .ok (.putfield 24, 3) := by decide +kernel
theorem dX4_next_17 : decode cX4_next 17 = .ok (.aload_n 0, 1) := by decide +kernel
theorem dX4_next_18 : decode cX4_next 18 = .ok (.aload_n 1, 1) := by decide +kernel
theorem dX4_next_19 : decode cX4_next 19 = .ok (.getfield 31, 3) := by decide +kernel
theorem dX4_next_22 : decode cX4_next 22 = .ok (.aload_n 1, 1) := by decide +kernel
theorem dX4_next_23 : decode cX4_next 23 = .ok (.getfield 18, 3) := by decide +kernel
theorem dX4_next_26 : decode cX4_next 26 = .ok (.aload_n 1, 1) := by decide +kernel
theorem dX4_next_27 : decode cX4_next 27 = .ok (.getfield 7, 3) := by decide +kernel
theorem dX4_next_30 : decode cX4_next 30 = .ok (.iconst 1, 1) := by decide +kernel
theorem dX4_next_31 : decode cX4_next 31 = .ok (.isub, 1) := by decide +kernel
theorem dX4_next_32 : decode cX4_next 32 = .ok (.invokevirtual 34, 3) := by decide +kernel
theorem dX4_next_35 : decode cX4_next 35 = .ok (.aload_n 0, 1) := by decide +kernel
theorem dX4_next_36 : decode cX4_next 36 = .ok (.aload_n 1, 1) := by decide +kernel
theorem dX4_next_37 : decode cX4_next 37 = .ok (.getfield 38, 3) := by decide +kernel
theorem dX4_next_40 : decode cX4_next 40 = .ok (.aload_n 1, 1) := by decide +kernel
theorem dX4_next_41 : decode cX4_next 41 = .ok (.getfield 7, 3) := by decide +kernel
theorem dX4_next_44 : decode cX4_next 44 = .ok (.iconst 1, 1) := by decide +kernel
theorem dX4_next_45 : decode cX4_next 45 = .ok (.iadd, 1) := by decide +kernel
theorem dX4_next_46 : decode cX4_next 46 = .ok (.aload_n 1, 1) := by decide +kernel
theorem dX4_next_47 : decode cX4_next 47 = .ok (.getfield 21, 3) := by decide +kernel
theorem dX4_next_50 : decode cX4_next 50 = .ok (.invokevirtual 34, 3) := by decide +kernel
theorem dX4_next_53 : decode cX4_next 53 = .ok (.aload_n 1, 1) := by decide +kernel
theorem dX4_next_54 : decode cX4_next 54 = .ok (.areturn, 1) := by decide +kernel
theorem dX5_init_0 : decode cX5_init 0 = .ok (.aload_n 0, 1) := by decide +kernel
theorem dX5_init_1 : decode cX5_init 1 = .ok (.invokespecial 1, 3) := by decide +kernel
theorem dX5_init_4 : decode cX5_init 4 = .ok (.aload_n 0, 1) := by decide +kernel
theorem dX5_init_5 : decode cX5_init 5 = .ok (.new 7, 3) := by decide +kernel
theorem dX5_init_8 : decode cX5_init 8 = .ok (.dup, 1) := by decide +kernel
theorem dX5_init_9 : decode cX5_init 9 = .ok (.invokespecial 9, 3) := by decide +kernel
theorem dX5_init_12 : decode cX5_init 12 = .ok (.putfield 10, 3) := by decide +kernel
theorem dX5_init_15 : decode cX5_init 15 = .ok (.aload_n 0, 1) := by decide +kernel
theorem dX5_init_16 : decode cX5_init 16 = .ok (.sipush 1024, 3) := by decide +kernel
theorem dX5_init_19 : decode cX5_init 19 = .ok (.invokevirtual 16, 3) := by decide +kernel
theorem dX5_init_22 : decode cX5_init 22 = .ok (.return_, 1) := by decide +kernel
theorem dX5_space_0 : decode cX5_space 0 = .ok (.iload_n 1, 1) := by decide +kernel
theorem dX5_space_1 : decode cX5_space 1 = .ok (.bipush 16, 2) := by decide +kernel
theorem dX5_space_3 : decode cX5_space 3 = .ok (.if_icmp .lt 10, 3) := by decide +kernel
theorem dX5_space_6 : decode cX5_space 6 = .ok (.iload_n 1, 1) := by decide +kernel
theorem dX5_space_7 : decode cX5_space 7 = .ok (.sipush 16384, 3) := by decide +kernel
theorem dX5_space_10 : decode cX5_space 10 = .ok (.if_icmp .le 13, 3) := by decide +kernel
theorem dX5_space_13 : decode cX5_space 13 = .ok (.new 20, 3) := by decide +kernel
theorem dX5_space_16 : decode cX5_space 16 = .ok (.dup, 1) := by decide +kernel
theorem dX5_space_17 : decode cX5_space 17 = .ok (.ldc 22, 2) := by decide +kernel
theorem dX5_space_19 : decode cX5_space 19 = .ok (.invokespecial 24, 3) := by decide +kernel
theorem dX5_space_22 : decode cX5_space 22 = .ok (.athrow, 1) := by decide +kernel
theorem dX5_space_23 : decode cX5_space 23 = .ok (.aload_n 0, 1) := by decide +kernel
theorem dX5_space_24 : decode cX5_space 24 = .ok (.getfield 27, 3) := by decide +kernel
theorem dX5_space_27 : decode cX5_space 27 = .ok (.istore_n 2, 1) := by decide +kernel
theorem dX5_space_28 : decode cX5_space 28 = .ok (.aload_n 0, 1) := by decide +kernel
theorem dX5_space_29 : decode cX5_space 29 = .ok (.iload_n 1, 1) := by decide +kernel
theorem dX5_space_30 : decode cX5_space 30 = .ok (.invokevirtual 16, 3) := by decide +kernel
theorem dX5_space_33 : decode cX5_space 33 = .ok (.iload_n 2, 1) := by decide +kernel
theorem dX5_space_34 : decode cX5_space 34 = .ok (.ireturn, 1) := by decide +kernel
theorem dX5_take_0 : decode cX5_take 0 = .ok (.iload_n 1, 1) := by decide +kernel
theorem dX5_take_1 : decode cX5_take 1 = .ok (.invokestatic 31, 3) := by decide +kernel
theorem dX5_take_4 : decode cX5_take 4 = .ok (.aload_n 0, 1) := by decide +kernel
theorem dX5_take_5 : decode cX5_take 5 = .ok (.getfield 10, 3) := by decide +kernel
theorem dX5_take_8 : decode cX5_take 8 = .ok (.iload_n 1, 1) := by decide +kernel
theorem dX5_take_9 : decode cX5_take 9 = .ok (.invokevirtual 34, 3) := by decide +kernel
theorem dX5_take_12 : decode cX5_take 12 = .ok (.astore_n 2, 1) := by decide +kernel
theorem dX5_take_13 : decode cX5_take 13 = .ok (.aload_n 2, 1) := by decide +kernel
theorem dX5_take_14 : decode cX5_take 14 = .ok (.ifnonnull 15, 3) := by decide +kernel
theorem dX5_take_17 : decode cX5_take 17 = .ok (.aload_n 0, 1) := by decide +kernel
theorem dX5_take_18 : decode cX5_take 18 = .ok (.dup, 1) := by decide +kernel
theorem dX5_take_19 : decode cX5_take 19 = .ok (.getfield 38, 3) := by decide +kernel
theorem dX5_take_22 : decode cX5_take 22 = .ok (.iconst 1, 1) := by decide +kernel
theorem dX5_take_23 : decode cX5_take 23 = .ok (.iadd, 1) := by decide +kernel
theorem dX5_take_24 : decode cX5_take 24 = .ok (.putfield 38, 3) := by decide +kernel
theorem dX5_take_27 : decode cX5_take 27 = .ok (.iconst 0, 1) := by decide +kernel
theorem dX5_take_28 : decode cX5_take 28 = .ok (.ireturn, 1) := by decide +kernel
theorem dX5_take_29 : decode cX5_take 29 = .ok (.aload_n 0, 1) := by decide +kernel
theorem dX5_take_30 : decode cX5_take 30 = .ok (.getfield 10, 3) := by decide +kernel
theorem dX5_take_33 : decode cX5_take 33 = .ok (.aload_n 2, 1) := by decide +kernel
theorem dX5_take_34 : decode cX5_take 34 = .ok (.invokevirtual 41, 3) := by decide +kernel
theorem dX5_take_37 : decode cX5_take 37 = .ok (.aload_n 2, 1) := by decide +kernel
theorem dX5_take_38 : decode cX5_take 38 = .ok (.getfield 45, 3) := by decide +kernel
theorem dX5_take_41 : decode cX5_take 41 = .ok (.iload_n 1, 1) := by decide +kernel
theorem dX5_take_42 : decode cX5_take 42 = .ok (.if_icmp .le 9, 3) := by decide +kernel
theorem dX5_take_45 : decode cX5_take 45 = .ok (.aload_n 0, 1) := by decide +kernel
theorem dX5_take_46 : decode cX5_take 46 = .ok (.aload_n 2, 1) := by decide +kernel
theorem dX5_take_47 : decode cX5_take 47 = .ok (.iload_n 1, 1) := by decide +kernel
theorem dX5_take_48 : decode cX5_take 48 = .ok (.invokevirtual 50, 3) := by decide +kernel
theorem dX5_take_51 : decode cX5_take 51 = .ok (.aload_n 2, 1) := by decide +kernel
theorem dX5_take_52 : decode cX5_take 52 = .ok (.getfield 54, 3) := by decide +kernel
theorem dX5_take_55 : decode cX5_take 55 = .ok (.ireturn, 1) := by decide +kernel
theorem dX5_give_0 : decode cX5_give 0 = .ok (.aload_n 0, 1) := by decide +kernel
theorem dX5_give_1 : decode cX5_give 1 = .ok (.iload_n 1, 1) := by decide +kernel
theorem dX5_give_2 : decode cX5_give 2 = .ok (.invokevirtual 57, 3) := by decide +kernel
theorem dX5_give_5 : decode cX5_give 5 = .ok (.astore_n 2, 1) := by decide +kernel
theorem dX5_give_6 : decode cX5_give 6 = .ok (.aload_n 2, 1) := by decide +kernel
theorem dX5_give_7 : decode cX5_give 7 = .ok (.ifnull 10, 3) := by decide +kernel
theorem dX5_give_10 : decode cX5_give 10 = .ok (.aload_n 2, 1) := by decide +kernel
theorem dX5_give_11 : decode cX5_give 11 = .ok (.getfield 60, 3) := by decide +kernel
theorem dX5_give_14 : decode cX5_give 14 = .ok (.ifCond .eq 13, 3) := by decide +kernel
theorem dX5_give_17 : decode cX5_give 17 = .ok (.new 64, 3) := by decide +kernel
theorem dX5_give_20 : decode cX5_give 20 = .ok (.dup, 1) := by decide +kernel
theorem dX5_give_21 : decode cX5_give 21 = .ok (.ldc 66, 2) := by decide +kernel
theorem dX5_give_23 : decode cX5_give 23 = .ok (.invokespecial 68, 3) := by decide +kernel
theorem dX5_give_26 : decode cX5_give 26 = .ok (.athrow, 1) := by decide +kernel
theorem dX5_give_27 : decode cX5_give 27 = .ok (.aload_n 0, 1) := by decide +kernel
theorem dX5_give_28 : decode cX5_give 28 = .ok (.getfield 10, 3) := by decide +kernel
theorem dX5_give_31 : decode cX5_give 31 = .ok (.aload_n 2, 1) := by decide +kernel
theorem dX5_give_32 : decode cX5_give 32 = .ok (.invokevirtual 69, 3) := by decide +kernel
theorem dX5_give_35 : decode cX5_give 35 = .ok (.aload_n 2, 1) := by decide +kernel
theorem dX5_give_36 : decode cX5_give 36 = .ok (.getfield 45, 3) := by decide +kernel
theorem dX5_give_39 : decode cX5_give 39 = .ok (.ireturn, 1) := by decide +kernel
theorem dX5_join_0 : decode cX5_join 0 = .ok (.aload_n 0, 1) := by decide +kernel
theorem dX5_join_1 : decode cX5_join 1 = .ok (.iload_n 1, 1) := by decide +kernel
theorem dX5_join_2 : decode cX5_join 2 = .ok (.invokevirtual 57, 3) := by decide +kernel
theorem dX5_join_5 : decode cX5_join 5 = .ok (.astore_n 2, 1) := by decide +kernel
theorem dX5_join_6 : decode cX5_join 6 = .ok (.aload_n 2, 1) := by decide +kernel
theorem dX5_join_7 : decode cX5_join 7 = .ok (.ifnull 10, 3) := by decide +kernel
theorem dX5_join_10 : decode cX5_join 10 = .ok (.aload_n 2, 1) := by decide +kernel
theorem dX5_join_11 : decode cX5_join 11 = .ok (.getfield 60, 3) := by decide +kernel
theorem dX5_join_14 : decode cX5_join 14 = .ok (.ifCond .ne 13, 3) := by decide +kernel
theorem dX5_join_17 : decode cX5_join 17 = .ok (.new 64, 3) := by decide +kernel
theorem dX5_join_20 : decode cX5_join 20 = .ok (.dup, 1) := by decide +kernel
theorem dX5_join_21 : decode cX5_join 21 = .ok (.ldc 72, 2) := by decide +kernel
theorem dX5_join_23 : decode cX5_join 23 = .ok (.invokespecial 68, 3) := by decide +kernel
theorem dX5_join_26 : decode cX5_join 26 = .ok (.athrow, 1) := by decide +kernel
theorem dX5_join_27 : decode cX5_join 27 = .ok (.aload_n 0, 1) := by decide +kernel
theorem dX5_join_28 : decode cX5_join 28 = .ok (.aload_n 2, 1) := by decide +kernel
theorem dX5_join_29 : decode cX5_join 29 = .ok (.invokevirtual 74, 3) := by decide +kernel
theorem dX5_join_32 : decode cX5_join 32 = .ok (.pop, 1) := by decide +kernel
theorem dX5_join_33 : decode cX5_join 33 = .ok (.aload_n 2, 1) := by decide +kernel
theorem dX5_join_34 : decode cX5_join 34 = .ok (.getfield 45, 3) := by decide +kernel
theorem dX5_join_37 : decode cX5_join 37 = .ok (.ireturn, 1) := by decide +kernel
theorem dX5_joinAll_0 : decode cX5_joinAll 0 = .ok (.iconst 0, 1) := by decide +kernel
theorem dX5_joinAll_1 : decode cX5_joinAll 1 = .ok (.istore_n 1, 1) := by decide +kernel
theorem dX5_joinAll_2 : decode cX5_joinAll 2 = .ok (.aload_n 0, 1) := by decide +kernel
theorem dX5_joinAll_3 : decode cX5_joinAll 3 = .ok (.getfield 78, 3) := by decide +kernel
theorem dX5_joinAll_6 : decode cX5_joinAll 6 = .ok (.astore_n 2, 1) := by decide +kernel
theorem dX5_joinAll_7 : decode cX5_joinAll 7 = .ok (.aload_n 2, 1) := by decide +kernel
theorem dX5_joinAll_8 : decode cX5_joinAll 8 = .ok (.ifnull 26, 3) := by decide +kernel
theorem dX5_joinAll_11 : decode cX5_joinAll 11 = .ok (.aload_n 2, 1) := by decide +kernel
theorem dX5_joinAll_12 : decode cX5_joinAll 12 = .ok (.getfield 60, 3) := by decide +kernel
theorem dX5_joinAll_15 : decode cX5_joinAll 15 = .ok (.ifCond .eq 11, 3) := by decide +kernel
theorem dX5_joinAll_18 : decode cX5_joinAll 18 = .ok (.iload_n 1, 1) := by decide +kernel
theorem dX5_joinAll_19 : decode cX5_joinAll 19 = .ok (.aload_n 0, 1) := by decide +kernel
theorem dX5_joinAll_20 : decode cX5_joinAll 20 = .ok (.aload_n 2, 1) := by decide +kernel
theorem dX5_joinAll_21 : decode cX5_joinAll 21 = .ok (.invokevirtual 74, 3) := by decide +kernel
theorem dX5_joinAll_24 : decode cX5_joinAll 24 = .ok (.iadd, 1) := by decide +kernel
theorem dX5_joinAll_25 : decode cX5_joinAll 25 = .ok (.istore_n 1, 1) := by decide +kernel
theorem dX5_joinAll_26 : decode cX5_joinAll 26 = .ok (.aload_n 2, 1) := by decide +kernel
theorem dX5_joinAll_27 : decode cX5_joinAll 27 = .ok (.getfield 82, 3) := by decide +kernel
theorem dX5_joinAll_30 : decode cX5_joinAll 30 = .ok (.astore_n 2, 1) := by decide +kernel
theorem dX5_joinAll_31 : decode cX5_joinAll 31 = .ok (.goto (-24), 3) := by decide +kernel
theorem dX5_joinAll_34 : decode cX5_joinAll 34 = .ok (.iload_n 1, 1) := by decide +kernel
theorem dX5_joinAll_35 : decode cX5_joinAll 35 = .ok (.ireturn, 1) := by decide +kernel
theorem dX5_suffices_0 : decode cX5_suffices 0 = .ok (.iload_n 1, 1) := by decide +kernel
theorem dX5_suffices_1 : decode cX5_suffices 1 = .ok (.invokestatic 31, 3) := by decide +kernel
theorem dX5_suffices_4 : decode cX5_suffices 4 = .ok (.aload_n 0, 1) := by decide +kernel
theorem dX5_suffices_5 : decode cX5_suffices 5 = .ok (.getfield 10, 3) := by decide +kernel
theorem dX5_suffices_8 : decode cX5_suffices 8 = .ok (.iload_n 1, 1) := by decide +kernel
theorem dX5_suffices_9 : decode cX5_suffices 9 = .ok (.invokevirtual 34, 3) := by decide +kernel
theorem dX5_suffices_12 : decode cX5_suffices 12 = .ok (.astore_n 2, 1) := by decide +kernel
theorem dX5_suffices_13 : decode cX5_suffices 13 = .ok (.aload_n 2, 1) := by decide +kernel
theorem dX5_suffices_14 : decode cX5_suffices 14 = .ok (.ifnonnull 7, 3) := by decide +kernel
theorem dX5_suffices_17 : decode cX5_suffices 17 = .ok (.iconst 0, 1) := by decide +kernel
theorem dX5_suffices_18 : decode cX5_suffices 18 = .ok (.goto 7, 3) := by decide +kernel
theorem dX5_suffices_21 : decode cX5_suffices 21 = .ok (.aload_n 2, 1) := by decide +kernel
theorem dX5_suffices_22 : decode cX5_suffices 22 = .ok (.getfield 54, 3) := by decide +kernel
theorem dX5_suffices_25 : decode cX5_suffices 25 = .ok (.ireturn, 1) := by decide +kernel
theorem dX5_piece_0 : decode cX5_piece 0 = .ok (.aload_n 0, 1) := by decide +kernel
theorem dX5_piece_1 : decode cX5_piece 1 = .ok (.iload_n 1, 1) := by decide +kernel
theorem dX5_piece_2 : decode cX5_piece 2 = .ok (.invokevirtual 57, 3) := by decide +kernel
theorem dX5_piece_5 : decode cX5_piece 5 = .ok (.astore_n 2, 1) := by decide +kernel
theorem dX5_piece_6 : decode cX5_piece 6 = .ok (.aload_n 2, 1) := by decide +kernel
theorem dX5_piece_7 : decode cX5_piece 7 = .ok (.ifnonnull 5, 3) := by decide +kernel
theorem dX5_piece_10 : decode cX5_piece 10 = .ok (.iconst 0, 1) := by decide +kernel
theorem dX5_piece_11 : decode cX5_piece 11 = .ok (.ireturn, 1) := by decide +kernel
theorem dX5_piece_12 : decode cX5_piece 12 = .ok (.aload_n 2, 1) := by decide +kernel
theorem dX5_piece_13 : decode cX5_piece 13 = .ok (.getfield 60, 3) := by decide +kernel
theorem dX5_piece_16 : decode cX5_piece 16 = .ok (.ifCond .eq 11, 3) := by decide +kernel
theorem dX5_piece_19 : decode cX5_piece 19 = .ok (.aload_n 2, 1) := by decide +kernel
theorem dX5_piece_20 : decode cX5_piece 20 = .ok (.getfield 45, 3) := by decide +kernel
theorem dX5_piece_23 : decode cX5_piece 23 = .ok (.ineg, 1) := by decide +kernel
theorem dX5_piece_24 : decode cX5_piece 24 = .ok (.goto 7, 3) := by decide +kernel
theorem dX5_piece_27 : decode cX5_piece 27 = .ok (.aload_n 2, 1) := by decide +kernel
theorem dX5_piece_28 : decode cX5_piece 28 = .ok (.getfield 45, 3) := by decide +kernel
theorem dX5_piece_31 : decode cX5_piece 31 = .ok (.ireturn, 1) := by decide +kernel
theorem dX5_cover_0 : decode cX5_cover 0 = .ok (.aload_n 0, 1) := by decide +kernel
theorem dX5_cover_1 : decode cX5_cover 1 = .ok (.iload_n 1, 1) := by decide +kernel
theorem dX5_cover_2 : decode cX5_cover 2 = .ok (.invokevirtual 85, 3) := by decide +kernel
theorem dX5_cover_5 : decode cX5_cover 5 = .ok (.astore_n 2, 1) := by decide +kernel
theorem dX5_cover_6 : decode cX5_cover 6 = .ok (.aload_n 2, 1) := by decide +kernel
theorem dX5_cover_7 : decode cX5_cover 7 = .ok (.ifnonnull 7, 3) := by decide +kernel
theorem dX5_cover_10 : decode cX5_cover 10 = .ok (.iconst 0, 1) := by decide +kernel
theorem dX5_cover_11 : decode cX5_cover 11 = .ok (.goto 7, 3) := by decide +kernel
theorem dX5_cover_14 : decode cX5_cover 14 = .ok (.aload_n 2, 1) := by decide +kernel
theorem dX5_cover_15 : decode cX5_cover 15 = .ok (.getfield 54, 3) := by decide +kernel
theorem dX5_cover_18 : decode cX5_cover 18 = .ok (.ireturn, 1) := by decide +kernel
theorem dX5_free_0 : decode cX5_free 0 = .ok (.iload_n 2, 1) := by decide +kernel
theorem dX5_free_1 : decode cX5_free 1 = .ok (.ifCond .ge 13, 3) := by decide +kernel
theorem dX5_free_4 : decode cX5_free 4 = .ok (.new 20, 3) := by decide +kernel
theorem dX5_free_7 : decode cX5_free 7 = .ok (.dup, 1) := by decide +kernel
theorem dX5_free_8 : decode cX5_free 8 = .ok (.ldc 88, 2) := by decide +kernel
theorem dX5_free_10 : decode cX5_free 10 = .ok (.invokespecial 24, 3) := by decide +kernel
theorem dX5_free_13 : decode cX5_free 13 = .ok (.athrow, 1) := by decide +kernel
theorem dX5_free_14 : decode cX5_free 14 = .ok (.aload_n 0, 1) := by decide +kernel
theorem dX5_free_15 : decode cX5_free 15 = .ok (.getfield 10, 3) := by decide +kernel
theorem dX5_free_18 : decode cX5_free 18 = .ok (.iload_n 1, 1) := by decide +kernel
theorem dX5_free_19 : decode cX5_free 19 = .ok (.invokevirtual 90, 3) := by decide +kernel
theorem dX5_free_22 : decode cX5_free 22 = .ok (.astore_n 3, 1) := by decide +kernel
theorem dX5_free_23 : decode cX5_free 23 = .ok (.aload_n 3, 1) := by decide +kernel
theorem dX5_free_24 : decode cX5_free 24 = .ok (.ifnonnull 7, 3) := by decide +kernel
theorem dX5_free_27 : decode cX5_free 27 = .ok (.aconst_null, 1) := by decide +kernel
theorem dX5_free_28 : decode cX5_free 28 = .ok (.goto 8, 3) := by decide +kernel
theorem dX5_free_31 : decode cX5_free 31 = .ok (.aload_n 3, 1) := by decide +kernel
theorem dX5_free_32 : decode cX5_free 32 = .ok (.iload_n 2, 1) := by decide +kernel
theorem dX5_free_33 : decode cX5_free 33 = .ok (.invokevirtual 94, 3) := by decide +kernel
theorem dX5_free_36 : decode cX5_free 36 = .ok (.astore 4, 2) := by decide +kernel
theorem dX5_free_38 : decode cX5_free 38 = .ok (.aload 4, 2) := by decide +kernel
theorem dX5_free_40 : decode cX5_free 40 = .ok (.ifnonnull 7, 3) := by decide +kernel
theorem dX5_free_43 : decode cX5_free 43 = .ok (.iconst 0, 1) := by decide +kernel
theorem dX5_free_44 : decode cX5_free 44 = .ok (.goto 8, 3) := by decide +kernel
theorem dX5_free_47 : decode cX5_free 47 = .ok (.aload 4, 2) := by decide +kernel
theorem dX5_free_49 : decode cX5_free 49 = .ok (.getfield 54, 3) := by decide +kernel
theorem dX5_free_52 : decode cX5_free 52 = .ok (.ireturn, 1) := by decide +kernel
theorem dX5_count_0 : decode cX5_count 0 = .ok (.iload_n 1, 1) := by decide +kernel
theorem dX5_count_1 : decode cX5_count 1 = .ok (.tableswitch 87 0 7 #[47, 52, 57, 62, 67, 72, 77, 82], 47) := by decide +kernel
theorem dX5_count_48 : decode cX5_count 48 = .ok (.aload_n 0, 1) := by decide +kernel
theorem dX5_count_49 : decode cX5_count 49 = .ok (.invokevirtual 99, 3) := by decide +kernel
theorem dX5_count_52 : decode cX5_count 52 = .ok (.ireturn, 1) := by decide +kernel
theorem dX5_count_53 : decode cX5_count 53 = .ok (.aload_n 0, 1) := by decide +kernel
theorem dX5_count_54 : decode cX5_count 54 = .ok (.invokevirtual 103, 3) := by decide +kernel
theorem dX5_count_57 : decode cX5_count 57 = .ok (.ireturn, 1) := by decide +kernel
theorem dX5_count_58 : decode cX5_count 58 = .ok (.aload_n 0, 1) := by decide +kernel
theorem dX5_count_59 : decode cX5_count 59 = .ok (.invokevirtual 106, 3) := by decide +kernel
theorem dX5_count_62 : decode cX5_count 62 = .ok (.ireturn, 1) := by decide +kernel
theorem dX5_count_63 : decode cX5_count 63 = .ok (.aload_n 0, 1) := by decide +kernel
theorem dX5_count_64 : decode cX5_count 64 = .ok (.invokevirtual 109, 3) := by decide +kernel
theorem dX5_count_67 : decode cX5_count 67 = .ok (.ireturn, 1) := by decide +kernel
theorem dX5_count_68 : decode cX5_count 68 = .ok (.aload_n 0, 1) := by decide +kernel
theorem dX5_count_69 : decode cX5_count 69 = .ok (.invokevirtual 112, 3) := by decide +kernel
theorem dX5_count_72 : decode cX5_count 72 = .ok (.ireturn, 1) := by decide +kernel
theorem dX5_count_73 : decode cX5_count 73 = .ok (.aload_n 0, 1) := by decide +kernel
theorem dX5_count_74 : decode cX5_count 74 = .ok (.invokevirtual 115, 3) := by decide +kernel
theorem dX5_count_77 : decode cX5_count 77 = .ok (.ireturn, 1) := by decide +kernel
theorem dX5_count_78 : decode cX5_count 78 = .ok (.aload_n 0, 1) := by decide +kernel
theorem dX5_count_79 : decode cX5_count 79 = .ok (.getfield 38, 3) := by decide +kernel
theorem dX5_count_82 : decode cX5_count 82 = .ok (.ireturn, 1) := by decide +kernel
theorem dX5_count_83 : decode cX5_count 83 = .ok (.aload_n 0, 1) := by decide +kernel
theorem dX5_count_84 : decode cX5_count 84 = .ok (.getfield 27, 3) := by decide +kernel
theorem dX5_count_87 : decode cX5_count 87 = .ok (.ireturn, 1) := by decide +kernel
theorem dX5_count_88 : decode cX5_count 88 = .ok (.new 20, 3) := by decide +kernel
theorem dX5_count_91 : decode cX5_count 91 = .ok (.dup, 1) := by decide +kernel
theorem dX5_count_92 : decode cX5_count 92 = .ok (.ldc 118, 2) := by decide +kernel
theorem dX5_count_94 : decode cX5_count 94 = .ok (.invokespecial 24, 3) := by decide +kernel
theorem dX5_count_97 : decode cX5_count 97 = .ok (.athrow, 1) := by decide +kernel
theorem dX5_faults_0 : decode cX5_faults 0 = .ok (.iconst 0, 1) := by decide +kernel
theorem dX5_faults_1 : decode cX5_faults 1 = .ok (.istore_n 1, 1) := by decide +kernel
theorem dX5_faults_2 : decode cX5_faults 2 = .ok (.iconst 1, 1) := by decide +kernel
theorem dX5_faults_3 : decode cX5_faults 3 = .ok (.istore_n 2, 1) := by decide +kernel
theorem dX5_faults_4 : decode cX5_faults 4 = .ok (.iconst 0, 1) := by decide +kernel
theorem dX5_faults_5 : decode cX5_faults 5 = .ok (.istore_n 3, 1) := by decide +kernel
theorem dX5_faults_6 : decode cX5_faults 6 = .ok (.aload_n 0, 1) := by decide +kernel
theorem dX5_faults_7 : decode cX5_faults 7 = .ok (.getfield 78, 3) := by decide +kernel
theorem dX5_faults_10 : decode cX5_faults 10 = .ok (.astore 4, 2) := by decide +kernel
theorem dX5_faults_12 : decode cX5_faults 12 = .ok (.iconst 0, 1) := by decide +kernel
theorem dX5_faults_13 : decode cX5_faults 13 = .ok (.istore 5, 2) := by decide +kernel
theorem dX5_faults_15 : decode cX5_faults 15 = .ok (.aload 4, 2) := by decide +kernel
theorem dX5_faults_17 : decode cX5_faults 17 = .ok (.ifnull 104, 3) := by decide +kernel
theorem dX5_faults_20 : decode cX5_faults 20 = .ok (.iload 5, 2) := by decide +kernel
theorem dX5_faults_22 : decode cX5_faults 22 = .ok (.aload_n 0, 1) := by decide +kernel
theorem dX5_faults_23 : decode cX5_faults 23 = .ok (.getfield 27, 3) := by decide +kernel
theorem dX5_faults_26 : decode cX5_faults 26 = .ok (.if_icmp .ge 95, 3) := by decide +kernel
theorem dX5_faults_29 : decode cX5_faults 29 = .ok (.aload 4, 2) := by decide +kernel
theorem dX5_faults_31 : decode cX5_faults 31 = .ok (.getfield 54, 3) := by decide +kernel
theorem dX5_faults_34 : decode cX5_faults 34 = .ok (.iload_n 2, 1) := by decide +kernel
theorem dX5_faults_35 : decode cX5_faults 35 = .ok (.if_icmp .eq 6, 3) := by decide +kernel
theorem dX5_faults_38 : decode cX5_faults 38 = .ok (.iinc 1 1, 3) := by decide +kernel
theorem dX5_faults_41 : decode cX5_faults 41 = .ok (.aload 4, 2) := by decide +kernel
theorem dX5_faults_43 : decode cX5_faults 43 = .ok (.getfield 45, 3) := by decide +kernel
theorem dX5_faults_46 : decode cX5_faults 46 = .ok (.iconst 1, 1) := by decide +kernel
theorem dX5_faults_47 : decode cX5_faults 47 = .ok (.if_icmp .lt 20, 3) := by decide +kernel
theorem dX5_faults_50 : decode cX5_faults 50 = .ok (.aload 4, 2) := by decide +kernel
theorem dX5_faults_52 : decode cX5_faults 52 = .ok (.getfield 60, 3) := by decide +kernel
theorem dX5_faults_55 : decode cX5_faults 55 = .ok (.ifCond .ne 15, 3) := by decide +kernel
theorem dX5_faults_58 : decode cX5_faults 58 = .ok (.aload 4, 2) := by decide +kernel
theorem dX5_faults_60 : decode cX5_faults 60 = .ok (.getfield 45, 3) := by decide +kernel
theorem dX5_faults_63 : decode cX5_faults 63 = .ok (.iconst 3, 1) := by decide +kernel
theorem dX5_faults_64 : decode cX5_faults 64 = .ok (.if_icmp .ge 6, 3) := by decide +kernel
theorem dX5_faults_67 : decode cX5_faults 67 = .ok (.iinc 1 1, 3) := by decide +kernel
theorem dX5_faults_70 : decode cX5_faults 70 = .ok (.aload 4, 2) := by decide +kernel
theorem dX5_faults_72 : decode cX5_faults 72 = .ok (.aload 4, 2) := by decide +kernel
theorem dX5_faults_74 : decode cX5_faults 74 = .ok (.invokevirtual 120, 3) := by decide +kernel
theorem dX5_faults_77 : decode cX5_faults 77 = .ok (.putfield 124, 3) := by decide +kernel
theorem dX5_faults_80 : decode cX5_faults 80 = .ok (.iload_n 3, 1) := by decide +kernel
theorem dX5_faults_81 : decode cX5_faults 81 = .ok (.aload 4, 2) := by decide +kernel
theorem dX5_faults_83 : decode cX5_faults 83 = .ok (.getfield 124, 3) := by decide +kernel
theorem dX5_faults_86 : decode cX5_faults 86 = .ok (.ifCond .eq 7, 3) := by decide +kernel
theorem dX5_faults_89 : decode cX5_faults 89 = .ok (.iconst 1, 1) := by decide +kernel
theorem dX5_faults_90 : decode cX5_faults 90 = .ok (.goto 4, 3) := by decide +kernel
theorem dX5_faults_93 : decode cX5_faults 93 = .ok (.iconst 0, 1) := by decide +kernel
theorem dX5_faults_94 : decode cX5_faults 94 = .ok (.iadd, 1) := by decide +kernel
theorem dX5_faults_95 : decode cX5_faults 95 = .ok (.istore_n 3, 1) := by decide +kernel
theorem dX5_faults_96 : decode cX5_faults 96 = .ok (.aload 4, 2) := by decide +kernel
theorem dX5_faults_98 : decode cX5_faults 98 = .ok (.getfield 54, 3) := by decide +kernel
theorem dX5_faults_101 : decode cX5_faults 101 = .ok (.aload 4, 2) := by decide +kernel
theorem dX5_faults_103 : decode cX5_faults 103 = .ok (.getfield 45, 3) := by decide +kernel
theorem dX5_faults_106 : decode cX5_faults 106 = .ok (.iadd, 1) := by decide +kernel
theorem dX5_faults_107 : decode cX5_faults 107 = .ok (.istore_n 2, 1) := by decide +kernel
theorem dX5_faults_108 : decode cX5_faults 108 = .ok (.aload 4, 2) := by decide +kernel
theorem dX5_faults_110 : decode cX5_faults 110 = .ok (.getfield 82, 3) := by decide +kernel
theorem dX5_faults_113 : decode cX5_faults 113 = .ok (.astore 4, 2) := by decide +kernel
theorem dX5_faults_115 : decode cX5_faults 115 = .ok (.iinc 5 1, 3) := by decide +kernel
theorem dX5_faults_118 : decode cX5_faults 118 = .ok (.goto (-103), 3) := by decide +kernel
theorem dX5_faults_121 : decode cX5_faults 121 = .ok (.aload 4, 2) := by decide +kernel
theorem dX5_faults_123 : decode cX5_faults 123 = .ok (.ifnonnull 13, 3) := by decide +kernel
theorem dX5_faults_126 : decode cX5_faults 126 = .ok (.iload_n 2, 1) := by decide +kernel
theorem dX5_faults_127 : decode cX5_faults 127 = .ok (.aload_n 0, 1) := by decide +kernel
theorem dX5_faults_128 : decode cX5_faults 128 = .ok (.getfield 27, 3) := by decide +kernel
theorem dX5_faults_131 : decode cX5_faults 131 = .ok (.iconst 1, 1) := by decide +kernel
theorem dX5_faults_132 : decode cX5_faults 132 = .ok (.iadd, 1) := by decide +kernel
theorem dX5_faults_133 : decode cX5_faults 133 = .ok (.if_icmp .eq 6, 3) := by decide +kernel
theorem dX5_faults_136 : decode cX5_faults 136 = .ok (.iinc 1 1, 3) := by decide +kernel
theorem dX5_faults_139 : decode cX5_faults 139 = .ok (.iload_n 1, 1) := by decide +kernel
theorem dX5_faults_140 : decode cX5_faults 140 = .ok (.aload_n 0, 1) := by decide +kernel
theorem dX5_faults_141 : decode cX5_faults 141 = .ok (.getfield 10, 3) := by decide +kernel
theorem dX5_faults_144 : decode cX5_faults 144 = .ok (.iload_n 3, 1) := by decide +kernel
theorem dX5_faults_145 : decode cX5_faults 145 = .ok (.aload_n 0, 1) := by decide +kernel
theorem dX5_faults_146 : decode cX5_faults 146 = .ok (.getfield 27, 3) := by decide +kernel
theorem dX5_faults_149 : decode cX5_faults 149 = .ok (.invokevirtual 127, 3) := by decide +kernel
theorem dX5_faults_152 : decode cX5_faults 152 = .ok (.iadd, 1) := by decide +kernel
theorem dX5_faults_153 : decode cX5_faults 153 = .ok (.ireturn, 1) := by decide +kernel
theorem dX5_startWith_0 : decode cX5_startWith 0 = .ok (.aload_n 0, 1) := by decide +kernel
theorem dX5_startWith_1 : decode cX5_startWith 1 = .ok (.getfield 10, 3) := by decide +kernel
theorem dX5_startWith_4 : decode cX5_startWith 4 = .ok (.invokevirtual 131, 3) := by decide +kernel
theorem dX5_startWith_7 : decode cX5_startWith 7 = .ok (.aload_n 0, 1) := by decide +kernel
theorem dX5_startWith_8 : decode cX5_startWith 8 = .ok (.iload_n 1, 1) := by decide +kernel
theorem dX5_startWith_9 : decode cX5_startWith 9 = .ok (.putfield 27, 3) := by decide +kernel
theorem dX5_startWith_12 : decode cX5_startWith 12 = .ok (.aload_n 0, 1) := by decide +kernel
theorem dX5_startWith_13 : decode cX5_startWith 13 = .ok (.iconst 0, 1) := by decide +kernel
theorem dX5_startWith_14 : decode cX5_startWith 14 = .ok (.putfield 38, 3) := by decide +kernel
theorem dX5_startWith_17 : decode cX5_startWith 17 = .ok (.aload_n 0, 1) := by decide +kernel
theorem dX5_startWith_18 : decode cX5_startWith 18 = .ok (.new 46, 3) := by decide +kernel
theorem dX5_startWith_21 : decode cX5_startWith 21 = .ok (.dup, 1) := by decide +kernel
theorem dX5_startWith_22 : decode cX5_startWith 22 = .ok (.iconst 1, 1) := by decide +kernel
theorem dX5_startWith_23 : decode cX5_startWith 23 = .ok (.iload_n 1, 1) := by decide +kernel
theorem dX5_startWith_24 : decode cX5_startWith 24 = .ok (.aconst_null, 1) := by decide +kernel
theorem dX5_startWith_25 : decode cX5_startWith 25 = .ok (.invokespecial 134, 3) := by decide +kernel
theorem dX5_startWith_28 : decode cX5_startWith 28 = .ok (.putfield 78, 3) := by decide +kernel
theorem dX5_startWith_31 : decode cX5_startWith 31 = .ok (.aload_n 0, 1) := by decide +kernel
theorem dX5_startWith_32 : decode cX5_startWith 32 = .ok (.getfield 10, 3) := by decide +kernel
theorem dX5_startWith_35 : decode cX5_startWith 35 = .ok (.aload_n 0, 1) := by decide +kernel
theorem dX5_startWith_36 : decode cX5_startWith 36 = .ok (.getfield 78, 3) := by decide +kernel
theorem dX5_startWith_39 : decode cX5_startWith 39 = .ok (.invokevirtual 69, 3) := by decide +kernel
theorem dX5_startWith_42 : decode cX5_startWith 42 = .ok (.return_, 1) := by decide +kernel
theorem dX5_requireSize_0 : decode cX5_requireSize 0 = .ok (.iload_n 0, 1) := by decide +kernel
theorem dX5_requireSize_1 : decode cX5_requireSize 1 = .ok (.iconst 3, 1) := by decide +kernel
theorem dX5_requireSize_2 : decode cX5_requireSize 2 = .ok (.if_icmp .lt 10, 3) := by decide +kernel
theorem dX5_requireSize_5 : decode cX5_requireSize 5 = .ok (.iload_n 0, 1) := by decide +kernel
theorem dX5_requireSize_6 : decode cX5_requireSize 6 = .ok (.sipush 5000, 3) := by decide +kernel
theorem dX5_requireSize_9 : decode cX5_requireSize 9 = .ok (.if_icmp .le 13, 3) := by decide +kernel
theorem dX5_requireSize_12 : decode cX5_requireSize 12 = .ok (.new 20, 3) := by decide +kernel
theorem dX5_requireSize_15 : decode cX5_requireSize 15 = .ok (.dup, 1) := by decide +kernel
theorem dX5_requireSize_16 : decode cX5_requireSize 16 = .ok (.ldc 137, 2) := by decide +kernel
theorem dX5_requireSize_18 : decode cX5_requireSize 18 = .ok (.invokespecial 24, 3) := by decide +kernel
theorem dX5_requireSize_21 : decode cX5_requireSize 21 = .ok (.athrow, 1) := by decide +kernel
theorem dX5_requireSize_22 : decode cX5_requireSize 22 = .ok (.return_, 1) := by decide +kernel
theorem dX5_cut_0 : decode cX5_cut 0 = .ok (.new 46, 3) := by decide +kernel
theorem dX5_cut_3 : decode cX5_cut 3 = .ok (.dup, 1) := by decide +kernel
theorem dX5_cut_4 : decode cX5_cut 4 = .ok (.aload_n 1, 1) := by decide +kernel
theorem dX5_cut_5 : decode cX5_cut 5 = .ok (.getfield 54, 3) := by decide +kernel
theorem dX5_cut_8 : decode cX5_cut 8 = .ok (.iload_n 2, 1) := by decide +kernel
theorem dX5_cut_9 : decode cX5_cut 9 = .ok (.iadd, 1) := by decide +kernel
theorem dX5_cut_10 : decode cX5_cut 10 = .ok (.aload_n 1, 1) := by decide +kernel
theorem dX5_cut_11 : decode cX5_cut 11 = .ok (.getfield 45, 3) := by decide +kernel
theorem dX5_cut_14 : decode cX5_cut 14 = .ok (.iload_n 2, 1) := by decide +kernel
theorem dX5_cut_15 : decode cX5_cut 15 = .ok (.isub, 1) := by decide +kernel
theorem dX5_cut_16 : decode cX5_cut 16 = .ok (.aload_n 1, 1) := by decide +kernel
theorem dX5_cut_17 : decode cX5_cut 17 = .ok (.getfield 82, 3) := by decide +kernel
theorem dX5_cut_20 : decode cX5_cut 20 = .ok (.invokespecial 134, 3) := by decide +kernel
theorem dX5_cut_23 : decode cX5_cut 23 = .ok (.astore_n 3, 1) := by decide +kernel
theorem dX5_cut_24 : decode cX5_cut 24 = .ok (.aload_n 1, 1) := by decide +kernel
theorem dX5_cut_25 : decode cX5_cut 25 = .ok (.iload_n 2, 1) := by decide +kernel
theorem dX5_cut_26 : decode cX5_cut 26 = .ok (.putfield 45, 3) := by decide +kernel
theorem dX5_cut_29 : decode cX5_cut 29 = .ok (.aload_n 1, 1) := by decide +kernel
theorem dX5_cut_30 : decode cX5_cut 30 = .ok (.aload_n 3, 1) := by decide +kernel
theorem dX5_cut_31 : decode cX5_cut 31 = .ok (.putfield 82, 3) := by decide +kernel
theorem dX5_cut_34 : decode cX5_cut 34 = .ok (.aload_n 0, 1) := by decide +kernel
theorem dX5_cut_35 : decode cX5_cut 35 = .ok (.getfield 10, 3) := by decide +kernel
theorem dX5_cut_38 : decode cX5_cut 38 = .ok (.aload_n 3, 1) := by decide +kernel
theorem dX5_cut_39 : decode cX5_cut 39 = .ok (.invokevirtual 69, 3) := by decide +kernel
theorem dX5_cut_42 : decode cX5_cut 42 = .ok (.return_, 1) := by decide +kernel
theorem dX5_swallowFreeBehind_0 : decode cX5_swallowFreeBehind 0 = .ok (.aload_n 1, 1) := by decide +kernel
theorem dX5_swallowFreeBehind_1 : decode cX5_swallowFreeBehind 1 = .ok (.getfield 82, 3) := by decide +kernel
theorem dX5_swallowFreeBehind_4 : decode cX5_swallowFreeBehind 4 = .ok (.ifnull 13, 3) := by decide +kernel
theorem dX5_swallowFreeBehind_7 : decode cX5_swallowFreeBehind 7 = .ok (.aload_n 1, 1) := by decide +kernel
theorem dX5_swallowFreeBehind_8 : decode cX5_swallowFreeBehind 8 = .ok (.getfield 82, 3) := by decide +kernel
theorem dX5_swallowFreeBehind_11 : decode cX5_swallowFreeBehind 11 = .ok (.getfield 60, 3) := by decide +kernel
theorem dX5_swallowFreeBehind_14 : decode cX5_swallowFreeBehind 14 = .ok (.ifCond .ne 5, 3) := by decide +kernel
theorem dX5_swallowFreeBehind_17 : decode cX5_swallowFreeBehind 17 = .ok (.iconst 0, 1) := by decide +kernel
theorem dX5_swallowFreeBehind_18 : decode cX5_swallowFreeBehind 18 = .ok (.ireturn, 1) := by decide +kernel
theorem dX5_swallowFreeBehind_19 : decode cX5_swallowFreeBehind 19 = .ok (.aload_n 0, 1) := by decide +kernel
theorem dX5_swallowFreeBehind_20 : decode cX5_swallowFreeBehind 20 = .ok (.getfield 10, 3) := by decide +kernel
theorem dX5_swallowFreeBehind_23 : decode cX5_swallowFreeBehind 23 = .ok (.aload_n 1, 1) := by decide +kernel
theorem dX5_swallowFreeBehind_24 : decode cX5_swallowFreeBehind 24 = .ok (.invokevirtual 41, 3) := by decide +kernel
theorem dX5_swallowFreeBehind_27 : decode cX5_swallowFreeBehind 27 = .ok (.iconst 0, 1) := by decide +kernel
theorem dX5_swallowFreeBehind_28 : decode cX5_swallowFreeBehind 28 = .ok (.istore_n 2, 1) := by decide +kernel
theorem dX5_swallowFreeBehind_29 : decode cX5_swallowFreeBehind 29 = .ok (.aload_n 1, 1) := by decide +kernel
theorem dX5_swallowFreeBehind_30 : decode cX5_swallowFreeBehind 30 = .ok (.getfield 82, 3) := by decide +kernel
theorem dX5_swallowFreeBehind_33 : decode cX5_swallowFreeBehind 33 = .ok (.astore_n 3, 1) := by decide +kernel
theorem dX5_swallowFreeBehind_34 : decode cX5_swallowFreeBehind 34 = .ok (.aload_n 3, 1) := by decide +kernel
theorem dX5_swallowFreeBehind_35 : decode cX5_swallowFreeBehind 35 = .ok (.ifnull 50, 3) := by decide +kernel
theorem dX5_swallowFreeBehind_38 : decode cX5_swallowFreeBehind 38 = .ok (.aload_n 3, 1) := by decide +kernel
theorem dX5_swallowFreeBehind_39 : decode cX5_swallowFreeBehind 39 = .ok (.getfield 60, 3) := by decide +kernel
theorem dX5_swallowFreeBehind_42 : decode cX5_swallowFreeBehind 42 = .ok (.ifCond .eq 43, 3) := by decide +kernel
theorem dX5_swallowFreeBehind_45 : decode cX5_swallowFreeBehind 45 = .ok (.aload_n 0, 1) := by decide +kernel
theorem dX5_swallowFreeBehind_46 : decode cX5_swallowFreeBehind 46 = .ok (.getfield 10, 3) := by decide +kernel
theorem dX5_swallowFreeBehind_49 : decode cX5_swallowFreeBehind 49 = .ok (.aload_n 3, 1) := by decide +kernel
theorem dX5_swallowFreeBehind_50 : decode cX5_swallowFreeBehind 50 = .ok (.invokevirtual 41, 3) := by decide +kernel
theorem dX5_swallowFreeBehind_53 : decode cX5_swallowFreeBehind 53 = .ok (.aload_n 1, 1) := by decide +kernel
theorem dX5_swallowFreeBehind_54 : decode cX5_swallowFreeBehind 54 = .ok (.dup, 1) := by decide +kernel
theorem dX5_swallowFreeBehind_55 : decode cX5_swallowFreeBehind 55 = .ok (.getfield 45, 3) := by decide +kernel
theorem dX5_swallowFreeBehind_58 : decode cX5_swallowFreeBehind 58 = .ok (.aload_n 3, 1) := by decide +kernel
theorem dX5_swallowFreeBehind_59 : decode cX5_swallowFreeBehind 59 = .ok (.getfield 45, 3) := by decide +kernel
theorem dX5_swallowFreeBehind_62 : decode cX5_swallowFreeBehind 62 = .ok (.iadd, 1) := by decide +kernel
theorem dX5_swallowFreeBehind_63 : decode cX5_swallowFreeBehind 63 = .ok (.putfield 45, 3) := by decide +kernel
theorem dX5_swallowFreeBehind_66 : decode cX5_swallowFreeBehind 66 = .ok (.aload_n 1, 1) := by decide +kernel
theorem dX5_swallowFreeBehind_67 : decode cX5_swallowFreeBehind 67 = .ok (.aload_n 3, 1) := by decide +kernel
theorem dX5_swallowFreeBehind_68 : decode cX5_swallowFreeBehind 68 = .ok (.getfield 82, 3) := by decide +kernel
theorem dX5_swallowFreeBehind_71 : decode cX5_swallowFreeBehind 71 = .ok (.putfield 82, 3) := by decide +kernel
theorem dX5_swallowFreeBehind_74 : decode cX5_swallowFreeBehind 74 = .ok (.iinc 2 1, 3) := by decide +kernel
theorem dX5_swallowFreeBehind_77 : decode cX5_swallowFreeBehind 77 = .ok (.aload_n 3, 1) := by decide +kernel
theorem dX5_swallowFreeBehind_78 : decode cX5_swallowFreeBehind 78 = .ok (.getfield 82, 3) := by decide +kernel
theorem dX5_swallowFreeBehind_81 : decode cX5_swallowFreeBehind 81 = .ok (.astore_n 3, 1) := by decide +kernel
theorem dX5_swallowFreeBehind_82 : decode cX5_swallowFreeBehind 82 = .ok (.goto (-48), 3) := by decide +kernel
theorem dX5_swallowFreeBehind_85 : decode cX5_swallowFreeBehind 85 = .ok (.aload_n 0, 1) := by decide +kernel
theorem dX5_swallowFreeBehind_86 : decode cX5_swallowFreeBehind 86 = .ok (.getfield 10, 3) := by decide +kernel
theorem dX5_swallowFreeBehind_89 : decode cX5_swallowFreeBehind 89 = .ok (.aload_n 1, 1) := by decide +kernel
theorem dX5_swallowFreeBehind_90 : decode cX5_swallowFreeBehind 90 = .ok (.invokevirtual 69, 3) := by decide +kernel
theorem dX5_swallowFreeBehind_93 : decode cX5_swallowFreeBehind 93 = .ok (.iload_n 2, 1) := by decide +kernel
theorem dX5_swallowFreeBehind_94 : decode cX5_swallowFreeBehind 94 = .ok (.ireturn, 1) := by decide +kernel
theorem dX5_beginningAt_0 : decode cX5_beginningAt 0 = .ok (.aload_n 0, 1) := by decide +kernel
theorem dX5_beginningAt_1 : decode cX5_beginningAt 1 = .ok (.iload_n 1, 1) := by decide +kernel
theorem dX5_beginningAt_2 : decode cX5_beginningAt 2 = .ok (.invokevirtual 85, 3) := by decide +kernel
theorem dX5_beginningAt_5 : decode cX5_beginningAt 5 = .ok (.astore_n 2, 1) := by decide +kernel
theorem dX5_beginningAt_6 : decode cX5_beginningAt 6 = .ok (.aload_n 2, 1) := by decide +kernel
theorem dX5_beginningAt_7 : decode cX5_beginningAt 7 = .ok (.ifnull 15, 3) := by decide +kernel
theorem dX5_beginningAt_10 : decode cX5_beginningAt 10 = .ok (.aload_n 2, 1) := by decide +kernel
theorem dX5_beginningAt_11 : decode cX5_beginningAt 11 = .ok (.getfield 54, 3) := by decide +kernel
theorem dX5_beginningAt_14 : decode cX5_beginningAt 14 = .ok (.iload_n 1, 1) := by decide +kernel
theorem dX5_beginningAt_15 : decode cX5_beginningAt 15 = .ok (.if_icmp .ne 7, 3) := by decide +kernel
theorem dX5_beginningAt_18 : decode cX5_beginningAt 18 = .ok (.aload_n 2, 1) := by decide +kernel
theorem dX5_beginningAt_19 : decode cX5_beginningAt 19 = .ok (.goto 4, 3) := by decide +kernel
theorem dX5_beginningAt_22 : decode cX5_beginningAt 22 = .ok (.aconst_null, 1) := by decide +kernel
theorem dX5_beginningAt_23 : decode cX5_beginningAt 23 = .ok (.areturn, 1) := by decide +kernel
theorem dX5_holding_0 : decode cX5_holding 0 = .ok (.iload_n 1, 1) := by decide +kernel
theorem dX5_holding_1 : decode cX5_holding 1 = .ok (.iconst 1, 1) := by decide +kernel
theorem dX5_holding_2 : decode cX5_holding 2 = .ok (.if_icmp .lt 11, 3) := by decide +kernel
theorem dX5_holding_5 : decode cX5_holding 5 = .ok (.iload_n 1, 1) := by decide +kernel
theorem dX5_holding_6 : decode cX5_holding 6 = .ok (.aload_n 0, 1) := by decide +kernel
theorem dX5_holding_7 : decode cX5_holding 7 = .ok (.getfield 27, 3) := by decide +kernel
theorem dX5_holding_10 : decode cX5_holding 10 = .ok (.if_icmp .le 5, 3) := by decide +kernel
theorem dX5_holding_13 : decode cX5_holding 13 = .ok (.aconst_null, 1) := by decide +kernel
theorem dX5_holding_14 : decode cX5_holding 14 = .ok (.areturn, 1) := by decide +kernel
theorem dX5_holding_15 : decode cX5_holding 15 = .ok (.aload_n 0, 1) := by decide +kernel
theorem dX5_holding_16 : decode cX5_holding 16 = .ok (.getfield 78, 3) := by decide +kernel
theorem dX5_holding_19 : decode cX5_holding 19 = .ok (.astore_n 2, 1) := by decide +kernel
theorem dX5_holding_20 : decode cX5_holding 20 = .ok (.aload_n 0, 1) := by decide +kernel
theorem dX5_holding_21 : decode cX5_holding 21 = .ok (.getfield 78, 3) := by decide +kernel
theorem dX5_holding_24 : decode cX5_holding 24 = .ok (.astore_n 3, 1) := by decide +kernel
theorem dX5_holding_25 : decode cX5_holding 25 = .ok (.aload_n 3, 1) := by decide +kernel
theorem dX5_holding_26 : decode cX5_holding 26 = .ok (.ifnull 21, 3) := by decide +kernel
theorem dX5_holding_29 : decode cX5_holding 29 = .ok (.aload_n 3, 1) := by decide +kernel
theorem dX5_holding_30 : decode cX5_holding 30 = .ok (.getfield 54, 3) := by decide +kernel
theorem dX5_holding_33 : decode cX5_holding 33 = .ok (.iload_n 1, 1) := by decide +kernel
theorem dX5_holding_34 : decode cX5_holding 34 = .ok (.if_icmp .gt 13, 3) := by decide +kernel
theorem dX5_holding_37 : decode cX5_holding 37 = .ok (.aload_n 3, 1) := by decide +kernel
theorem dX5_holding_38 : decode cX5_holding 38 = .ok (.astore_n 2, 1) := by decide +kernel
theorem dX5_holding_39 : decode cX5_holding 39 = .ok (.aload_n 3, 1) := by decide +kernel
theorem dX5_holding_40 : decode cX5_holding 40 = .ok (.getfield 82, 3) := by decide +kernel
theorem dX5_holding_43 : decode cX5_holding 43 = .ok (.astore_n 3, 1) := by decide +kernel
theorem dX5_holding_44 : decode cX5_holding 44 = .ok (.goto (-19), 3) := by decide +kernel
theorem dX5_holding_47 : decode cX5_holding 47 = .ok (.aload_n 2, 1) := by decide +kernel
theorem dX5_holding_48 : decode cX5_holding 48 = .ok (.areturn, 1) := by decide +kernel
theorem dX5_freeCells_0 : decode cX5_freeCells 0 = .ok (.iconst 0, 1) := by decide +kernel
theorem dX5_freeCells_1 : decode cX5_freeCells 1 = .ok (.istore_n 1, 1) := by decide +kernel
theorem dX5_freeCells_2 : decode cX5_freeCells 2 = .ok (.aload_n 0, 1) := by decide +kernel
theorem dX5_freeCells_3 : decode cX5_freeCells 3 = .ok (.getfield 78, 3) := by decide +kernel
theorem dX5_freeCells_6 : decode cX5_freeCells 6 = .ok (.astore_n 2, 1) := by decide +kernel
theorem dX5_freeCells_7 : decode cX5_freeCells 7 = .ok (.aload_n 2, 1) := by decide +kernel
theorem dX5_freeCells_8 : decode cX5_freeCells 8 = .ok (.ifnull 29, 3) := by decide +kernel
theorem dX5_freeCells_11 : decode cX5_freeCells 11 = .ok (.iload_n 1, 1) := by decide +kernel
theorem dX5_freeCells_12 : decode cX5_freeCells 12 = .ok (.aload_n 2, 1) := by decide +kernel
theorem dX5_freeCells_13 : decode cX5_freeCells 13 = .ok (.getfield 60, 3) := by decide +kernel
theorem dX5_freeCells_16 : decode cX5_freeCells 16 = .ok (.ifCond .eq 10, 3) := by decide +kernel
theorem dX5_freeCells_19 : decode cX5_freeCells 19 = .ok (.aload_n 2, 1) := by decide +kernel
theorem dX5_freeCells_20 : decode cX5_freeCells 20 = .ok (.getfield 45, 3) := by decide +kernel
theorem dX5_freeCells_23 : decode cX5_freeCells 23 = .ok (.goto 4, 3) := by decide +kernel
theorem dX5_freeCells_26 : decode cX5_freeCells 26 = .ok (.iconst 0, 1) := by decide +kernel
theorem dX5_freeCells_27 : decode cX5_freeCells 27 = .ok (.iadd, 1) := by decide +kernel
theorem dX5_freeCells_28 : decode cX5_freeCells 28 = .ok (.istore_n 1, 1) := by decide +kernel
theorem dX5_freeCells_29 : decode cX5_freeCells 29 = .ok (.aload_n 2, 1) := by decide +kernel
theorem dX5_freeCells_30 : decode cX5_freeCells 30 = .ok (.getfield 82, 3) := by decide +kernel
theorem dX5_freeCells_33 : decode cX5_freeCells 33 = .ok (.astore_n 2, 1) := by decide +kernel
theorem dX5_freeCells_34 : decode cX5_freeCells 34 = .ok (.goto (-27), 3) := by decide +kernel
theorem dX5_freeCells_37 : decode cX5_freeCells 37 = .ok (.iload_n 1, 1) := by decide +kernel
theorem dX5_freeCells_38 : decode cX5_freeCells 38 = .ok (.ireturn, 1) := by decide +kernel
theorem dX5_crumbCells_0 : decode cX5_crumbCells 0 = .ok (.iconst 0, 1) := by decide +kernel
theorem dX5_crumbCells_1 : decode cX5_crumbCells 1 = .ok (.istore_n 1, 1) := by decide +kernel
theorem dX5_crumbCells_2 : decode cX5_crumbCells 2 = .ok (.aload_n 0, 1) := by decide +kernel
theorem dX5_crumbCells_3 : decode cX5_crumbCells 3 = .ok (.getfield 78, 3) := by decide +kernel
theorem dX5_crumbCells_6 : decode cX5_crumbCells 6 = .ok (.astore_n 2, 1) := by decide +kernel
theorem dX5_crumbCells_7 : decode cX5_crumbCells 7 = .ok (.aload_n 2, 1) := by decide +kernel
theorem dX5_crumbCells_8 : decode cX5_crumbCells 8 = .ok (.ifnull 29, 3) := by decide +kernel
theorem dX5_crumbCells_11 : decode cX5_crumbCells 11 = .ok (.iload_n 1, 1) := by decide +kernel
theorem dX5_crumbCells_12 : decode cX5_crumbCells 12 = .ok (.aload_n 2, 1) := by decide +kernel
theorem dX5_crumbCells_13 : decode cX5_crumbCells 13 = .ok (.invokevirtual 139, 3) := by decide +kernel
theorem dX5_crumbCells_16 : decode cX5_crumbCells 16 = .ok (.ifCond .eq 10, 3) := by decide +kernel
theorem dX5_crumbCells_19 : decode cX5_crumbCells 19 = .ok (.aload_n 2, 1) := by decide +kernel
theorem dX5_crumbCells_20 : decode cX5_crumbCells 20 = .ok (.getfield 45, 3) := by decide +kernel
theorem dX5_crumbCells_23 : decode cX5_crumbCells 23 = .ok (.goto 4, 3) := by decide +kernel
theorem dX5_crumbCells_26 : decode cX5_crumbCells 26 = .ok (.iconst 0, 1) := by decide +kernel
theorem dX5_crumbCells_27 : decode cX5_crumbCells 27 = .ok (.iadd, 1) := by decide +kernel
theorem dX5_crumbCells_28 : decode cX5_crumbCells 28 = .ok (.istore_n 1, 1) := by decide +kernel
theorem dX5_crumbCells_29 : decode cX5_crumbCells 29 = .ok (.aload_n 2, 1) := by decide +kernel
theorem dX5_crumbCells_30 : decode cX5_crumbCells 30 = .ok (.getfield 82, 3) := by decide +kernel
theorem dX5_crumbCells_33 : decode cX5_crumbCells 33 = .ok (.astore_n 2, 1) := by decide +kernel
theorem dX5_crumbCells_34 : decode cX5_crumbCells 34 = .ok (.goto (-27), 3) := by decide +kernel
theorem dX5_crumbCells_37 : decode cX5_crumbCells 37 = .ok (.iload_n 1, 1) := by decide +kernel
theorem dX5_crumbCells_38 : decode cX5_crumbCells 38 = .ok (.ireturn, 1) := by decide +kernel
theorem dX5_usedPieces_0 : decode cX5_usedPieces 0 = .ok (.iconst 0, 1) := by decide +kernel
theorem dX5_usedPieces_1 : decode cX5_usedPieces 1 = .ok (.istore_n 1, 1) := by decide +kernel
theorem dX5_usedPieces_2 : decode cX5_usedPieces 2 = .ok (.aload_n 0, 1) := by decide +kernel
theorem dX5_usedPieces_3 : decode cX5_usedPieces 3 = .ok (.getfield 78, 3) := by decide +kernel
theorem dX5_usedPieces_6 : decode cX5_usedPieces 6 = .ok (.astore_n 2, 1) := by decide +kernel
theorem dX5_usedPieces_7 : decode cX5_usedPieces 7 = .ok (.aload_n 2, 1) := by decide +kernel
theorem dX5_usedPieces_8 : decode cX5_usedPieces 8 = .ok (.ifnull 26, 3) := by decide +kernel
theorem dX5_usedPieces_11 : decode cX5_usedPieces 11 = .ok (.iload_n 1, 1) := by decide +kernel
theorem dX5_usedPieces_12 : decode cX5_usedPieces 12 = .ok (.aload_n 2, 1) := by decide +kernel
theorem dX5_usedPieces_13 : decode cX5_usedPieces 13 = .ok (.getfield 60, 3) := by decide +kernel
theorem dX5_usedPieces_16 : decode cX5_usedPieces 16 = .ok (.ifCond .eq 7, 3) := by decide +kernel
theorem dX5_usedPieces_19 : decode cX5_usedPieces 19 = .ok (.iconst 0, 1) := by decide +kernel
theorem dX5_usedPieces_20 : decode cX5_usedPieces 20 = .ok (.goto 4, 3) := by decide +kernel
theorem dX5_usedPieces_23 : decode cX5_usedPieces 23 = .ok (.iconst 1, 1) := by decide +kernel
theorem dX5_usedPieces_24 : decode cX5_usedPieces 24 = .ok (.iadd, 1) := by decide +kernel
theorem dX5_usedPieces_25 : decode cX5_usedPieces 25 = .ok (.istore_n 1, 1) := by decide +kernel
theorem dX5_usedPieces_26 : decode cX5_usedPieces 26 = .ok (.aload_n 2, 1) := by decide +kernel
theorem dX5_usedPieces_27 : decode cX5_usedPieces 27 = .ok (.getfield 82, 3) := by decide +kernel
theorem dX5_usedPieces_30 : decode cX5_usedPieces 30 = .ok (.astore_n 2, 1) := by decide +kernel
theorem dX5_usedPieces_31 : decode cX5_usedPieces 31 = .ok (.goto (-24), 3) := by decide +kernel
theorem dX5_usedPieces_34 : decode cX5_usedPieces 34 = .ok (.iload_n 1, 1) := by decide +kernel
theorem dX5_usedPieces_35 : decode cX5_usedPieces 35 = .ok (.ireturn, 1) := by decide +kernel
theorem dX5_shelvedPieces_0 : decode cX5_shelvedPieces 0 = .ok (.iconst 0, 1) := by decide +kernel
theorem dX5_shelvedPieces_1 : decode cX5_shelvedPieces 1 = .ok (.istore_n 1, 1) := by decide +kernel
theorem dX5_shelvedPieces_2 : decode cX5_shelvedPieces 2 = .ok (.aload_n 0, 1) := by decide +kernel
theorem dX5_shelvedPieces_3 : decode cX5_shelvedPieces 3 = .ok (.getfield 78, 3) := by decide +kernel
theorem dX5_shelvedPieces_6 : decode cX5_shelvedPieces 6 = .ok (.astore_n 2, 1) := by decide +kernel
theorem dX5_shelvedPieces_7 : decode cX5_shelvedPieces 7 = .ok (.aload_n 2, 1) := by decide +kernel
theorem dX5_shelvedPieces_8 : decode cX5_shelvedPieces 8 = .ok (.ifnull 26, 3) := by decide +kernel
theorem dX5_shelvedPieces_11 : decode cX5_shelvedPieces 11 = .ok (.iload_n 1, 1) := by decide +kernel
theorem dX5_shelvedPieces_12 : decode cX5_shelvedPieces 12 = .ok (.aload_n 2, 1) := by decide +kernel
theorem dX5_shelvedPieces_13 : decode cX5_shelvedPieces 13 = .ok (.invokevirtual 120, 3) := by decide +kernel
theorem dX5_shelvedPieces_16 : decode cX5_shelvedPieces 16 = .ok (.ifCond .eq 7, 3) := by decide +kernel
theorem dX5_shelvedPieces_19 : decode cX5_shelvedPieces 19 = .ok (.iconst 1, 1) := by decide +kernel
theorem dX5_shelvedPieces_20 : decode cX5_shelvedPieces 20 = .ok (.goto 4, 3) := by decide +kernel
theorem dX5_shelvedPieces_23 : decode cX5_shelvedPieces 23 = .ok (.iconst 0, 1) := by decide +kernel
theorem dX5_shelvedPieces_24 : decode cX5_shelvedPieces 24 = .ok (.iadd, 1) := by decide +kernel
theorem dX5_shelvedPieces_25 : decode cX5_shelvedPieces 25 = .ok (.istore_n 1, 1) := by decide +kernel
theorem dX5_shelvedPieces_26 : decode cX5_shelvedPieces 26 = .ok (.aload_n 2, 1) := by decide +kernel
theorem dX5_shelvedPieces_27 : decode cX5_shelvedPieces 27 = .ok (.getfield 82, 3) := by decide +kernel
theorem dX5_shelvedPieces_30 : decode cX5_shelvedPieces 30 = .ok (.astore_n 2, 1) := by decide +kernel
theorem dX5_shelvedPieces_31 : decode cX5_shelvedPieces 31 = .ok (.goto (-24), 3) := by decide +kernel
theorem dX5_shelvedPieces_34 : decode cX5_shelvedPieces 34 = .ok (.iload_n 1, 1) := by decide +kernel
theorem dX5_shelvedPieces_35 : decode cX5_shelvedPieces 35 = .ok (.ireturn, 1) := by decide +kernel
theorem dX5_crumbs_0 : decode cX5_crumbs 0 = .ok (.iconst 0, 1) := by decide +kernel
theorem dX5_crumbs_1 : decode cX5_crumbs 1 = .ok (.istore_n 1, 1) := by decide +kernel
theorem dX5_crumbs_2 : decode cX5_crumbs 2 = .ok (.aload_n 0, 1) := by decide +kernel
theorem dX5_crumbs_3 : decode cX5_crumbs 3 = .ok (.getfield 78, 3) := by decide +kernel
theorem dX5_crumbs_6 : decode cX5_crumbs 6 = .ok (.astore_n 2, 1) := by decide +kernel
theorem dX5_crumbs_7 : decode cX5_crumbs 7 = .ok (.aload_n 2, 1) := by decide +kernel
theorem dX5_crumbs_8 : decode cX5_crumbs 8 = .ok (.ifnull 26, 3) := by decide +kernel
theorem dX5_crumbs_11 : decode cX5_crumbs 11 = .ok (.iload_n 1, 1) := by decide +kernel
theorem dX5_crumbs_12 : decode cX5_crumbs 12 = .ok (.aload_n 2, 1) := by decide +kernel
theorem dX5_crumbs_13 : decode cX5_crumbs 13 = .ok (.invokevirtual 139, 3) := by decide +kernel
theorem dX5_crumbs_16 : decode cX5_crumbs 16 = .ok (.ifCond .eq 7, 3) := by decide +kernel
theorem dX5_crumbs_19 : decode cX5_crumbs 19 = .ok (.iconst 1, 1) := by decide +kernel
theorem dX5_crumbs_20 : decode cX5_crumbs 20 = .ok (.goto 4, 3) := by decide +kernel
theorem dX5_crumbs_23 : decode cX5_crumbs 23 = .ok (.iconst 0, 1) := by decide +kernel
theorem dX5_crumbs_24 : decode cX5_crumbs 24 = .ok (.iadd, 1) := by decide +kernel
theorem dX5_crumbs_25 : decode cX5_crumbs 25 = .ok (.istore_n 1, 1) := by decide +kernel
theorem dX5_crumbs_26 : decode cX5_crumbs 26 = .ok (.aload_n 2, 1) := by decide +kernel
theorem dX5_crumbs_27 : decode cX5_crumbs 27 = .ok (.getfield 82, 3) := by decide +kernel
theorem dX5_crumbs_30 : decode cX5_crumbs 30 = .ok (.astore_n 2, 1) := by decide +kernel
theorem dX5_crumbs_31 : decode cX5_crumbs 31 = .ok (.goto (-24), 3) := by decide +kernel
theorem dX5_crumbs_34 : decode cX5_crumbs 34 = .ok (.iload_n 1, 1) := by decide +kernel
theorem dX5_crumbs_35 : decode cX5_crumbs 35 = .ok (.ireturn, 1) := by decide +kernel
theorem dX5_greatestFree_0 : decode cX5_greatestFree 0 = .ok (.iconst 0, 1) := by decide +kernel
theorem dX5_greatestFree_1 : decode cX5_greatestFree 1 = .ok (.istore_n 1, 1) := by decide +kernel
theorem dX5_greatestFree_2 : decode cX5_greatestFree 2 = .ok (.aload_n 0, 1) := by decide +kernel
theorem dX5_greatestFree_3 : decode cX5_greatestFree 3 = .ok (.getfield 78, 3) := by decide +kernel
theorem dX5_greatestFree_6 : decode cX5_greatestFree 6 = .ok (.astore_n 2, 1) := by decide +kernel
theorem dX5_greatestFree_7 : decode cX5_greatestFree 7 = .ok (.aload_n 2, 1) := by decide +kernel
theorem dX5_greatestFree_8 : decode cX5_greatestFree 8 = .ok (.ifnull 31, 3) := by decide +kernel
theorem dX5_greatestFree_11 : decode cX5_greatestFree 11 = .ok (.aload_n 2, 1) := by decide +kernel
theorem dX5_greatestFree_12 : decode cX5_greatestFree 12 = .ok (.getfield 60, 3) := by decide +kernel
theorem dX5_greatestFree_15 : decode cX5_greatestFree 15 = .ok (.ifCond .eq 16, 3) := by decide +kernel
theorem dX5_greatestFree_18 : decode cX5_greatestFree 18 = .ok (.aload_n 2, 1) := by decide +kernel
theorem dX5_greatestFree_19 : decode cX5_greatestFree 19 = .ok (.getfield 45, 3) := by decide +kernel
theorem dX5_greatestFree_22 : decode cX5_greatestFree 22 = .ok (.iload_n 1, 1) := by decide +kernel
theorem dX5_greatestFree_23 : decode cX5_greatestFree 23 = .ok (.if_icmp .le 8, 3) := by decide +kernel
theorem dX5_greatestFree_26 : decode cX5_greatestFree 26 = .ok (.aload_n 2, 1) := by decide +kernel
theorem dX5_greatestFree_27 : decode cX5_greatestFree 27 = .ok (.getfield 45, 3) := by decide +kernel
theorem dX5_greatestFree_30 : decode cX5_greatestFree 30 = .ok (.istore_n 1, 1) := by decide +kernel
theorem dX5_greatestFree_31 : decode cX5_greatestFree 31 = .ok (.aload_n 2, 1) := by decide +kernel
theorem dX5_greatestFree_32 : decode cX5_greatestFree 32 = .ok (.getfield 82, 3) := by decide +kernel
theorem dX5_greatestFree_35 : decode cX5_greatestFree 35 = .ok (.astore_n 2, 1) := by decide +kernel
theorem dX5_greatestFree_36 : decode cX5_greatestFree 36 = .ok (.goto (-29), 3) := by decide +kernel
theorem dX5_greatestFree_39 : decode cX5_greatestFree 39 = .ok (.iload_n 1, 1) := by decide +kernel
theorem dX5_greatestFree_40 : decode cX5_greatestFree 40 = .ok (.ireturn, 1) := by decide +kernel
theorem dX6_init_0 : decode cX6_init 0 = .ok (.aload_n 0, 1) := by decide +kernel
theorem dX6_init_1 : decode cX6_init 1 = .ok (.invokespecial 1, 3) := by decide +kernel
theorem dX6_init_4 : decode cX6_init 4 = .ok (.aload_n 0, 1) := by decide +kernel
theorem dX6_init_5 : decode cX6_init 5 = .ok (.sipush 1024, 3) := by decide +kernel
theorem dX6_init_8 : decode cX6_init 8 = .ok (.putfield 7, 3) := by decide +kernel
theorem dX6_init_11 : decode cX6_init 11 = .ok (.aload_n 0, 1) := by decide +kernel
theorem dX6_init_12 : decode cX6_init 12 = .ok (.sipush 16385, 3) := by decide +kernel
theorem dX6_init_15 : decode cX6_init 15 = .ok (.newarray .int, 2) := by decide +kernel
theorem dX6_init_17 : decode cX6_init 17 = .ok (.putfield 13, 3) := by decide +kernel
theorem dX6_init_20 : decode cX6_init 20 = .ok (.aload_n 0, 1) := by decide +kernel
theorem dX6_init_21 : decode cX6_init 21 = .ok (.sipush 16385, 3) := by decide +kernel
theorem dX6_init_24 : decode cX6_init 24 = .ok (.newarray .int, 2) := by decide +kernel
theorem dX6_init_26 : decode cX6_init 26 = .ok (.putfield 17, 3) := by decide +kernel
theorem dX6_init_29 : decode cX6_init 29 = .ok (.aload_n 0, 1) := by decide +kernel
theorem dX6_init_30 : decode cX6_init 30 = .ok (.getfield 13, 3) := by decide +kernel
theorem dX6_init_33 : decode cX6_init 33 = .ok (.iconst 1, 1) := by decide +kernel
theorem dX6_init_34 : decode cX6_init 34 = .ok (.sipush (-1024), 3) := by decide +kernel
theorem dX6_init_37 : decode cX6_init 37 = .ok (.iastore, 1) := by decide +kernel
theorem dX6_init_38 : decode cX6_init 38 = .ok (.aload_n 0, 1) := by decide +kernel
theorem dX6_init_39 : decode cX6_init 39 = .ok (.getfield 17, 3) := by decide +kernel
theorem dX6_init_42 : decode cX6_init 42 = .ok (.iconst 1, 1) := by decide +kernel
theorem dX6_init_43 : decode cX6_init 43 = .ok (.iconst 0, 1) := by decide +kernel
theorem dX6_init_44 : decode cX6_init 44 = .ok (.iastore, 1) := by decide +kernel
theorem dX6_init_45 : decode cX6_init 45 = .ok (.return_, 1) := by decide +kernel
theorem dX6_thrown_0 : decode cX6_thrown 0 = .ok (.aload_n 0, 1) := by decide +kernel
theorem dX6_thrown_1 : decode cX6_thrown 1 = .ok (.getfield 20, 3) := by decide +kernel
theorem dX6_thrown_4 : decode cX6_thrown 4 = .ok (.ireturn, 1) := by decide +kernel
theorem dX6_goes_0 : decode cX6_goes 0 = .ok (.aload_n 0, 1) := by decide +kernel
theorem dX6_goes_1 : decode cX6_goes 1 = .ok (.iload_n 1, 1) := by decide +kernel
theorem dX6_goes_2 : decode cX6_goes 2 = .ok (.ifCond .eq 7, 3) := by decide +kernel
theorem dX6_goes_5 : decode cX6_goes 5 = .ok (.iconst 0, 1) := by decide +kernel
theorem dX6_goes_6 : decode cX6_goes 6 = .ok (.goto 4, 3) := by decide +kernel
theorem dX6_goes_9 : decode cX6_goes 9 = .ok (.iconst 1, 1) := by decide +kernel
theorem dX6_goes_10 : decode cX6_goes 10 = .ok (.putfield 20, 3) := by decide +kernel
theorem dX6_goes_13 : decode cX6_goes 13 = .ok (.iload_n 1, 1) := by decide +kernel
theorem dX6_goes_14 : decode cX6_goes 14 = .ok (.ireturn, 1) := by decide +kernel
theorem dX6_length_0 : decode cX6_length 0 = .ok (.aload_n 0, 1) := by decide +kernel
theorem dX6_length_1 : decode cX6_length 1 = .ok (.getfield 13, 3) := by decide +kernel
theorem dX6_length_4 : decode cX6_length 4 = .ok (.iload_n 1, 1) := by decide +kernel
theorem dX6_length_5 : decode cX6_length 5 = .ok (.iaload, 1) := by decide +kernel
theorem dX6_length_6 : decode cX6_length 6 = .ok (.ifCond .ge 14, 3) := by decide +kernel
theorem dX6_length_9 : decode cX6_length 9 = .ok (.iconst 0, 1) := by decide +kernel
theorem dX6_length_10 : decode cX6_length 10 = .ok (.aload_n 0, 1) := by decide +kernel
theorem dX6_length_11 : decode cX6_length 11 = .ok (.getfield 13, 3) := by decide +kernel
theorem dX6_length_14 : decode cX6_length 14 = .ok (.iload_n 1, 1) := by decide +kernel
theorem dX6_length_15 : decode cX6_length 15 = .ok (.iaload, 1) := by decide +kernel
theorem dX6_length_16 : decode cX6_length 16 = .ok (.isub, 1) := by decide +kernel
theorem dX6_length_17 : decode cX6_length 17 = .ok (.goto 9, 3) := by decide +kernel
theorem dX6_length_20 : decode cX6_length 20 = .ok (.aload_n 0, 1) := by decide +kernel
theorem dX6_length_21 : decode cX6_length 21 = .ok (.getfield 13, 3) := by decide +kernel
theorem dX6_length_24 : decode cX6_length 24 = .ok (.iload_n 1, 1) := by decide +kernel
theorem dX6_length_25 : decode cX6_length 25 = .ok (.iaload, 1) := by decide +kernel
theorem dX6_length_26 : decode cX6_length 26 = .ok (.ireturn, 1) := by decide +kernel
theorem dX6_release_0 : decode cX6_release 0 = .ok (.aload_n 0, 1) := by decide +kernel
theorem dX6_release_1 : decode cX6_release 1 = .ok (.dup, 1) := by decide +kernel
theorem dX6_release_2 : decode cX6_release 2 = .ok (.getfield 23, 3) := by decide +kernel
theorem dX6_release_5 : decode cX6_release 5 = .ok (.iconst 1, 1) := by decide +kernel
theorem dX6_release_6 : decode cX6_release 6 = .ok (.iadd, 1) := by decide +kernel
theorem dX6_release_7 : decode cX6_release 7 = .ok (.putfield 23, 3) := by decide +kernel
theorem dX6_release_10 : decode cX6_release 10 = .ok (.aload_n 0, 1) := by decide +kernel
theorem dX6_release_11 : decode cX6_release 11 = .ok (.getfield 13, 3) := by decide +kernel
theorem dX6_release_14 : decode cX6_release 14 = .ok (.iload_n 1, 1) := by decide +kernel
theorem dX6_release_15 : decode cX6_release 15 = .ok (.iconst 0, 1) := by decide +kernel
theorem dX6_release_16 : decode cX6_release 16 = .ok (.iload_n 2, 1) := by decide +kernel
theorem dX6_release_17 : decode cX6_release 17 = .ok (.isub, 1) := by decide +kernel
theorem dX6_release_18 : decode cX6_release 18 = .ok (.iastore, 1) := by decide +kernel
theorem dX6_release_19 : decode cX6_release 19 = .ok (.aload_n 0, 1) := by decide +kernel
theorem dX6_release_20 : decode cX6_release 20 = .ok (.getfield 17, 3) := by decide +kernel
theorem dX6_release_23 : decode cX6_release 23 = .ok (.iload_n 1, 1) := by decide +kernel
theorem dX6_release_24 : decode cX6_release 24 = .ok (.aload_n 0, 1) := by decide +kernel
theorem dX6_release_25 : decode cX6_release 25 = .ok (.getfield 23, 3) := by decide +kernel
theorem dX6_release_28 : decode cX6_release 28 = .ok (.iastore, 1) := by decide +kernel
theorem dX6_release_29 : decode cX6_release 29 = .ok (.return_, 1) := by decide +kernel
theorem dX6_space_0 : decode cX6_space 0 = .ok (.aload_n 0, 1) := by decide +kernel
theorem dX6_space_1 : decode cX6_space 1 = .ok (.iload_n 1, 1) := by decide +kernel
theorem dX6_space_2 : decode cX6_space 2 = .ok (.bipush 16, 2) := by decide +kernel
theorem dX6_space_4 : decode cX6_space 4 = .ok (.if_icmp .lt 14, 3) := by decide +kernel
theorem dX6_space_7 : decode cX6_space 7 = .ok (.iload_n 1, 1) := by decide +kernel
theorem dX6_space_8 : decode cX6_space 8 = .ok (.sipush 16384, 3) := by decide +kernel
theorem dX6_space_11 : decode cX6_space 11 = .ok (.if_icmp .gt 7, 3) := by decide +kernel
theorem dX6_space_14 : decode cX6_space 14 = .ok (.iconst 1, 1) := by decide +kernel
theorem dX6_space_15 : decode cX6_space 15 = .ok (.goto 4, 3) := by decide +kernel
theorem dX6_space_18 : decode cX6_space 18 = .ok (.iconst 0, 1) := by decide +kernel
theorem dX6_space_19 : decode cX6_space 19 = .ok (.invokevirtual 26, 3) := by decide +kernel
theorem dX6_space_22 : decode cX6_space 22 = .ok (.ifCond .ne 5, 3) := by decide +kernel
theorem dX6_space_25 : decode cX6_space 25 = .ok (.iconst 0, 1) := by decide +kernel
theorem dX6_space_26 : decode cX6_space 26 = .ok (.ireturn, 1) := by decide +kernel
theorem dX6_space_27 : decode cX6_space 27 = .ok (.aload_n 0, 1) := by decide +kernel
theorem dX6_space_28 : decode cX6_space 28 = .ok (.getfield 7, 3) := by decide +kernel
theorem dX6_space_31 : decode cX6_space 31 = .ok (.istore_n 2, 1) := by decide +kernel
theorem dX6_space_32 : decode cX6_space 32 = .ok (.iconst 1, 1) := by decide +kernel
theorem dX6_space_33 : decode cX6_space 33 = .ok (.istore_n 3, 1) := by decide +kernel
theorem dX6_space_34 : decode cX6_space 34 = .ok (.iload_n 3, 1) := by decide +kernel
theorem dX6_space_35 : decode cX6_space 35 = .ok (.sipush 16384, 3) := by decide +kernel
theorem dX6_space_38 : decode cX6_space 38 = .ok (.if_icmp .gt 16, 3) := by decide +kernel
theorem dX6_space_41 : decode cX6_space 41 = .ok (.aload_n 0, 1) := by decide +kernel
theorem dX6_space_42 : decode cX6_space 42 = .ok (.getfield 13, 3) := by decide +kernel
theorem dX6_space_45 : decode cX6_space 45 = .ok (.iload_n 3, 1) := by decide +kernel
theorem dX6_space_46 : decode cX6_space 46 = .ok (.iconst 0, 1) := by decide +kernel
theorem dX6_space_47 : decode cX6_space 47 = .ok (.iastore, 1) := by decide +kernel
theorem dX6_space_48 : decode cX6_space 48 = .ok (.iinc 3 1, 3) := by decide +kernel
theorem dX6_space_51 : decode cX6_space 51 = .ok (.goto (-17), 3) := by decide +kernel
theorem dX6_space_54 : decode cX6_space 54 = .ok (.aload_n 0, 1) := by decide +kernel
theorem dX6_space_55 : decode cX6_space 55 = .ok (.iload_n 1, 1) := by decide +kernel
theorem dX6_space_56 : decode cX6_space 56 = .ok (.putfield 7, 3) := by decide +kernel
theorem dX6_space_59 : decode cX6_space 59 = .ok (.aload_n 0, 1) := by decide +kernel
theorem dX6_space_60 : decode cX6_space 60 = .ok (.iconst 0, 1) := by decide +kernel
theorem dX6_space_61 : decode cX6_space 61 = .ok (.putfield 30, 3) := by decide +kernel
theorem dX6_space_64 : decode cX6_space 64 = .ok (.aload_n 0, 1) := by decide +kernel
theorem dX6_space_65 : decode cX6_space 65 = .ok (.iconst 1, 1) := by decide +kernel
theorem dX6_space_66 : decode cX6_space 66 = .ok (.iload_n 1, 1) := by decide +kernel
theorem dX6_space_67 : decode cX6_space 67 = .ok (.invokevirtual 33, 3) := by decide +kernel
theorem dX6_space_70 : decode cX6_space 70 = .ok (.iload_n 2, 1) := by decide +kernel
theorem dX6_space_71 : decode cX6_space 71 = .ok (.ireturn, 1) := by decide +kernel
theorem dX6_best_0 : decode cX6_best 0 = .ok (.iconst 0, 1) := by decide +kernel
theorem dX6_best_1 : decode cX6_best 1 = .ok (.istore_n 2, 1) := by decide +kernel
theorem dX6_best_2 : decode cX6_best 2 = .ok (.iconst 1, 1) := by decide +kernel
theorem dX6_best_3 : decode cX6_best 3 = .ok (.istore_n 3, 1) := by decide +kernel
theorem dX6_best_4 : decode cX6_best 4 = .ok (.iload_n 3, 1) := by decide +kernel
theorem dX6_best_5 : decode cX6_best 5 = .ok (.aload_n 0, 1) := by decide +kernel
theorem dX6_best_6 : decode cX6_best 6 = .ok (.getfield 7, 3) := by decide +kernel
theorem dX6_best_9 : decode cX6_best 9 = .ok (.if_icmp .gt 109, 3) := by decide +kernel
theorem dX6_best_12 : decode cX6_best 12 = .ok (.aload_n 0, 1) := by decide +kernel
theorem dX6_best_13 : decode cX6_best 13 = .ok (.getfield 13, 3) := by decide +kernel
theorem dX6_best_16 : decode cX6_best 16 = .ok (.iload_n 3, 1) := by decide +kernel
theorem dX6_best_17 : decode cX6_best 17 = .ok (.iaload, 1) := by decide +kernel
theorem dX6_best_18 : decode cX6_best 18 = .ok (.bipush (-3), 2) := by decide +kernel
theorem dX6_best_20 : decode cX6_best 20 = .ok (.if_icmp .gt 16, 3) := by decide +kernel
theorem dX6_best_23 : decode cX6_best 23 = .ok (.aload_n 0, 1) := by decide +kernel
theorem dX6_best_24 : decode cX6_best 24 = .ok (.iload_n 3, 1) := by decide +kernel
theorem dX6_best_25 : decode cX6_best 25 = .ok (.invokevirtual 37, 3) := by decide +kernel
theorem dX6_best_28 : decode cX6_best 28 = .ok (.iload_n 1, 1) := by decide +kernel
theorem dX6_best_29 : decode cX6_best 29 = .ok (.if_icmp .lt 7, 3) := by decide +kernel
theorem dX6_best_32 : decode cX6_best 32 = .ok (.iconst 1, 1) := by decide +kernel
theorem dX6_best_33 : decode cX6_best 33 = .ok (.goto 4, 3) := by decide +kernel
theorem dX6_best_36 : decode cX6_best 36 = .ok (.iconst 0, 1) := by decide +kernel
theorem dX6_best_37 : decode cX6_best 37 = .ok (.istore 4, 2) := by decide +kernel
theorem dX6_best_39 : decode cX6_best 39 = .ok (.iload_n 2, 1) := by decide +kernel
theorem dX6_best_40 : decode cX6_best 40 = .ok (.ifCond .eq 44, 3) := by decide +kernel
theorem dX6_best_43 : decode cX6_best 43 = .ok (.aload_n 0, 1) := by decide +kernel
theorem dX6_best_44 : decode cX6_best 44 = .ok (.iload_n 3, 1) := by decide +kernel
theorem dX6_best_45 : decode cX6_best 45 = .ok (.invokevirtual 37, 3) := by decide +kernel
theorem dX6_best_48 : decode cX6_best 48 = .ok (.aload_n 0, 1) := by decide +kernel
theorem dX6_best_49 : decode cX6_best 49 = .ok (.iload_n 2, 1) := by decide +kernel
theorem dX6_best_50 : decode cX6_best 50 = .ok (.invokevirtual 37, 3) := by decide +kernel
theorem dX6_best_53 : decode cX6_best 53 = .ok (.if_icmp .lt 31, 3) := by decide +kernel
theorem dX6_best_56 : decode cX6_best 56 = .ok (.aload_n 0, 1) := by decide +kernel
theorem dX6_best_57 : decode cX6_best 57 = .ok (.iload_n 3, 1) := by decide +kernel
theorem dX6_best_58 : decode cX6_best 58 = .ok (.invokevirtual 37, 3) := by decide +kernel
theorem dX6_best_61 : decode cX6_best 61 = .ok (.aload_n 0, 1) := by decide +kernel
theorem dX6_best_62 : decode cX6_best 62 = .ok (.iload_n 2, 1) := by decide +kernel
theorem dX6_best_63 : decode cX6_best 63 = .ok (.invokevirtual 37, 3) := by decide +kernel
theorem dX6_best_66 : decode cX6_best 66 = .ok (.if_icmp .ne 22, 3) := by decide +kernel
theorem dX6_best_69 : decode cX6_best 69 = .ok (.aload_n 0, 1) := by decide +kernel
theorem dX6_best_70 : decode cX6_best 70 = .ok (.getfield 17, 3) := by decide +kernel
theorem dX6_best_73 : decode cX6_best 73 = .ok (.iload_n 3, 1) := by decide +kernel
theorem dX6_best_74 : decode cX6_best 74 = .ok (.iaload, 1) := by decide +kernel
theorem dX6_best_75 : decode cX6_best 75 = .ok (.aload_n 0, 1) := by decide +kernel
theorem dX6_best_76 : decode cX6_best 76 = .ok (.getfield 17, 3) := by decide +kernel
theorem dX6_best_79 : decode cX6_best 79 = .ok (.iload_n 2, 1) := by decide +kernel
theorem dX6_best_80 : decode cX6_best 80 = .ok (.iaload, 1) := by decide +kernel
theorem dX6_best_81 : decode cX6_best 81 = .ok (.if_icmp .le 7, 3) := by decide +kernel
theorem dX6_best_84 : decode cX6_best 84 = .ok (.iconst 1, 1) := by decide +kernel
theorem dX6_best_85 : decode cX6_best 85 = .ok (.goto 4, 3) := by decide +kernel
theorem dX6_best_88 : decode cX6_best 88 = .ok (.iconst 0, 1) := by decide +kernel
theorem dX6_best_89 : decode cX6_best 89 = .ok (.istore 5, 2) := by decide +kernel
theorem dX6_best_91 : decode cX6_best 91 = .ok (.iload 4, 2) := by decide +kernel
theorem dX6_best_93 : decode cX6_best 93 = .ok (.ifCond .eq 12, 3) := by decide +kernel
theorem dX6_best_96 : decode cX6_best 96 = .ok (.iload 5, 2) := by decide +kernel
theorem dX6_best_98 : decode cX6_best 98 = .ok (.ifCond .eq 7, 3) := by decide +kernel
theorem dX6_best_101 : decode cX6_best 101 = .ok (.iload_n 3, 1) := by decide +kernel
theorem dX6_best_102 : decode cX6_best 102 = .ok (.goto 4, 3) := by decide +kernel
theorem dX6_best_105 : decode cX6_best 105 = .ok (.iload_n 2, 1) := by decide +kernel
theorem dX6_best_106 : decode cX6_best 106 = .ok (.istore_n 2, 1) := by decide +kernel
theorem dX6_best_107 : decode cX6_best 107 = .ok (.iload_n 3, 1) := by decide +kernel
theorem dX6_best_108 : decode cX6_best 108 = .ok (.aload_n 0, 1) := by decide +kernel
theorem dX6_best_109 : decode cX6_best 109 = .ok (.iload_n 3, 1) := by decide +kernel
theorem dX6_best_110 : decode cX6_best 110 = .ok (.invokevirtual 37, 3) := by decide +kernel
theorem dX6_best_113 : decode cX6_best 113 = .ok (.iadd, 1) := by decide +kernel
theorem dX6_best_114 : decode cX6_best 114 = .ok (.istore_n 3, 1) := by decide +kernel
theorem dX6_best_115 : decode cX6_best 115 = .ok (.goto (-111), 3) := by decide +kernel
theorem dX6_best_118 : decode cX6_best 118 = .ok (.iload_n 2, 1) := by decide +kernel
theorem dX6_best_119 : decode cX6_best 119 = .ok (.ireturn, 1) := by decide +kernel
theorem dX6_sized_0 : decode cX6_sized 0 = .ok (.iload_n 0, 1) := by decide +kernel
theorem dX6_sized_1 : decode cX6_sized 1 = .ok (.iconst 3, 1) := by decide +kernel
theorem dX6_sized_2 : decode cX6_sized 2 = .ok (.if_icmp .lt 14, 3) := by decide +kernel
theorem dX6_sized_5 : decode cX6_sized 5 = .ok (.iload_n 0, 1) := by decide +kernel
theorem dX6_sized_6 : decode cX6_sized 6 = .ok (.sipush 5000, 3) := by decide +kernel
theorem dX6_sized_9 : decode cX6_sized 9 = .ok (.if_icmp .gt 7, 3) := by decide +kernel
theorem dX6_sized_12 : decode cX6_sized 12 = .ok (.iconst 1, 1) := by decide +kernel
theorem dX6_sized_13 : decode cX6_sized 13 = .ok (.goto 4, 3) := by decide +kernel
theorem dX6_sized_16 : decode cX6_sized 16 = .ok (.iconst 0, 1) := by decide +kernel
theorem dX6_sized_17 : decode cX6_sized 17 = .ok (.ireturn, 1) := by decide +kernel
theorem dX6_take_0 : decode cX6_take 0 = .ok (.aload_n 0, 1) := by decide +kernel
theorem dX6_take_1 : decode cX6_take 1 = .ok (.iload_n 1, 1) := by decide +kernel
theorem dX6_take_2 : decode cX6_take 2 = .ok (.invokestatic 41, 3) := by decide +kernel
theorem dX6_take_5 : decode cX6_take 5 = .ok (.invokevirtual 26, 3) := by decide +kernel
theorem dX6_take_8 : decode cX6_take 8 = .ok (.ifCond .ne 5, 3) := by decide +kernel
theorem dX6_take_11 : decode cX6_take 11 = .ok (.iconst 0, 1) := by decide +kernel
theorem dX6_take_12 : decode cX6_take 12 = .ok (.ireturn, 1) := by decide +kernel
theorem dX6_take_13 : decode cX6_take 13 = .ok (.aload_n 0, 1) := by decide +kernel
theorem dX6_take_14 : decode cX6_take 14 = .ok (.iload_n 1, 1) := by decide +kernel
theorem dX6_take_15 : decode cX6_take 15 = .ok (.invokevirtual 45, 3) := by decide +kernel
theorem dX6_take_18 : decode cX6_take 18 = .ok (.istore_n 2, 1) := by decide +kernel
theorem dX6_take_19 : decode cX6_take 19 = .ok (.iload_n 2, 1) := by decide +kernel
theorem dX6_take_20 : decode cX6_take 20 = .ok (.ifCond .ne 15, 3) := by decide +kernel
theorem dX6_take_23 : decode cX6_take 23 = .ok (.aload_n 0, 1) := by decide +kernel
theorem dX6_take_24 : decode cX6_take 24 = .ok (.dup, 1) := by decide +kernel
theorem dX6_take_25 : decode cX6_take 25 = .ok (.getfield 30, 3) := by decide +kernel
theorem dX6_take_28 : decode cX6_take 28 = .ok (.iconst 1, 1) := by decide +kernel
theorem dX6_take_29 : decode cX6_take 29 = .ok (.iadd, 1) := by decide +kernel
theorem dX6_take_30 : decode cX6_take 30 = .ok (.putfield 30, 3) := by decide +kernel
theorem dX6_take_33 : decode cX6_take 33 = .ok (.iconst 0, 1) := by decide +kernel
theorem dX6_take_34 : decode cX6_take 34 = .ok (.ireturn, 1) := by decide +kernel
theorem dX6_take_35 : decode cX6_take 35 = .ok (.aload_n 0, 1) := by decide +kernel
theorem dX6_take_36 : decode cX6_take 36 = .ok (.iload_n 2, 1) := by decide +kernel
theorem dX6_take_37 : decode cX6_take 37 = .ok (.invokevirtual 37, 3) := by decide +kernel
theorem dX6_take_40 : decode cX6_take 40 = .ok (.iload_n 1, 1) := by decide +kernel
theorem dX6_take_41 : decode cX6_take 41 = .ok (.isub, 1) := by decide +kernel
theorem dX6_take_42 : decode cX6_take 42 = .ok (.istore_n 3, 1) := by decide +kernel
theorem dX6_take_43 : decode cX6_take 43 = .ok (.aload_n 0, 1) := by decide +kernel
theorem dX6_take_44 : decode cX6_take 44 = .ok (.getfield 13, 3) := by decide +kernel
theorem dX6_take_47 : decode cX6_take 47 = .ok (.iload_n 2, 1) := by decide +kernel
theorem dX6_take_48 : decode cX6_take 48 = .ok (.iload_n 1, 1) := by decide +kernel
theorem dX6_take_49 : decode cX6_take 49 = .ok (.iastore, 1) := by decide +kernel
theorem dX6_take_50 : decode cX6_take 50 = .ok (.iload_n 3, 1) := by decide +kernel
theorem dX6_take_51 : decode cX6_take 51 = .ok (.ifCond .le 11, 3) := by decide +kernel
theorem dX6_take_54 : decode cX6_take 54 = .ok (.aload_n 0, 1) := by decide +kernel
theorem dX6_take_55 : decode cX6_take 55 = .ok (.iload_n 2, 1) := by decide +kernel
theorem dX6_take_56 : decode cX6_take 56 = .ok (.iload_n 1, 1) := by decide +kernel
theorem dX6_take_57 : decode cX6_take 57 = .ok (.iadd, 1) := by decide +kernel
theorem dX6_take_58 : decode cX6_take 58 = .ok (.iload_n 3, 1) := by decide +kernel
theorem dX6_take_59 : decode cX6_take 59 = .ok (.invokevirtual 33, 3) := by decide +kernel
theorem dX6_take_62 : decode cX6_take 62 = .ok (.iload_n 2, 1) := by decide +kernel
theorem dX6_take_63 : decode cX6_take 63 = .ok (.ireturn, 1) := by decide +kernel
theorem dX6_known_0 : decode cX6_known 0 = .ok (.iload_n 1, 1) := by decide +kernel
theorem dX6_known_1 : decode cX6_known 1 = .ok (.iconst 1, 1) := by decide +kernel
theorem dX6_known_2 : decode cX6_known 2 = .ok (.if_icmp .lt 15, 3) := by decide +kernel
theorem dX6_known_5 : decode cX6_known 5 = .ok (.iload_n 1, 1) := by decide +kernel
theorem dX6_known_6 : decode cX6_known 6 = .ok (.aload_n 0, 1) := by decide +kernel
theorem dX6_known_7 : decode cX6_known 7 = .ok (.getfield 7, 3) := by decide +kernel
theorem dX6_known_10 : decode cX6_known 10 = .ok (.if_icmp .gt 7, 3) := by decide +kernel
theorem dX6_known_13 : decode cX6_known 13 = .ok (.iconst 1, 1) := by decide +kernel
theorem dX6_known_14 : decode cX6_known 14 = .ok (.goto 4, 3) := by decide +kernel
theorem dX6_known_17 : decode cX6_known 17 = .ok (.iconst 0, 1) := by decide +kernel
theorem dX6_known_18 : decode cX6_known 18 = .ok (.ireturn, 1) := by decide +kernel
theorem dX6_give_0 : decode cX6_give 0 = .ok (.aload_n 0, 1) := by decide +kernel
theorem dX6_give_1 : decode cX6_give 1 = .ok (.aload_n 0, 1) := by decide +kernel
theorem dX6_give_2 : decode cX6_give 2 = .ok (.iload_n 1, 1) := by decide +kernel
theorem dX6_give_3 : decode cX6_give 3 = .ok (.invokevirtual 48, 3) := by decide +kernel
theorem dX6_give_6 : decode cX6_give 6 = .ok (.ifCond .eq 16, 3) := by decide +kernel
theorem dX6_give_9 : decode cX6_give 9 = .ok (.aload_n 0, 1) := by decide +kernel
theorem dX6_give_10 : decode cX6_give 10 = .ok (.getfield 13, 3) := by decide +kernel
theorem dX6_give_13 : decode cX6_give 13 = .ok (.iload_n 1, 1) := by decide +kernel
theorem dX6_give_14 : decode cX6_give 14 = .ok (.iaload, 1) := by decide +kernel
theorem dX6_give_15 : decode cX6_give 15 = .ok (.ifCond .le 7, 3) := by decide +kernel
theorem dX6_give_18 : decode cX6_give 18 = .ok (.iconst 1, 1) := by decide +kernel
theorem dX6_give_19 : decode cX6_give 19 = .ok (.goto 4, 3) := by decide +kernel
theorem dX6_give_22 : decode cX6_give 22 = .ok (.iconst 0, 1) := by decide +kernel
theorem dX6_give_23 : decode cX6_give 23 = .ok (.invokevirtual 26, 3) := by decide +kernel
theorem dX6_give_26 : decode cX6_give 26 = .ok (.ifCond .ne 5, 3) := by decide +kernel
theorem dX6_give_29 : decode cX6_give 29 = .ok (.iconst 0, 1) := by decide +kernel
theorem dX6_give_30 : decode cX6_give 30 = .ok (.ireturn, 1) := by decide +kernel
theorem dX6_give_31 : decode cX6_give 31 = .ok (.aload_n 0, 1) := by decide +kernel
theorem dX6_give_32 : decode cX6_give 32 = .ok (.getfield 13, 3) := by decide +kernel
theorem dX6_give_35 : decode cX6_give 35 = .ok (.iload_n 1, 1) := by decide +kernel
theorem dX6_give_36 : decode cX6_give 36 = .ok (.iaload, 1) := by decide +kernel
theorem dX6_give_37 : decode cX6_give 37 = .ok (.istore_n 2, 1) := by decide +kernel
theorem dX6_give_38 : decode cX6_give 38 = .ok (.aload_n 0, 1) := by decide +kernel
theorem dX6_give_39 : decode cX6_give 39 = .ok (.iload_n 1, 1) := by decide +kernel
theorem dX6_give_40 : decode cX6_give 40 = .ok (.iload_n 2, 1) := by decide +kernel
theorem dX6_give_41 : decode cX6_give 41 = .ok (.invokevirtual 33, 3) := by decide +kernel
theorem dX6_give_44 : decode cX6_give 44 = .ok (.iload_n 2, 1) := by decide +kernel
theorem dX6_give_45 : decode cX6_give 45 = .ok (.ireturn, 1) := by decide +kernel
theorem dX6_joined_0 : decode cX6_joined 0 = .ok (.aload_n 0, 1) := by decide +kernel
theorem dX6_joined_1 : decode cX6_joined 1 = .ok (.iload_n 1, 1) := by decide +kernel
theorem dX6_joined_2 : decode cX6_joined 2 = .ok (.invokevirtual 37, 3) := by decide +kernel
theorem dX6_joined_5 : decode cX6_joined 5 = .ok (.istore_n 2, 1) := by decide +kernel
theorem dX6_joined_6 : decode cX6_joined 6 = .ok (.iconst 0, 1) := by decide +kernel
theorem dX6_joined_7 : decode cX6_joined 7 = .ok (.istore_n 3, 1) := by decide +kernel
theorem dX6_joined_8 : decode cX6_joined 8 = .ok (.iload_n 1, 1) := by decide +kernel
theorem dX6_joined_9 : decode cX6_joined 9 = .ok (.iload_n 2, 1) := by decide +kernel
theorem dX6_joined_10 : decode cX6_joined 10 = .ok (.iadd, 1) := by decide +kernel
theorem dX6_joined_11 : decode cX6_joined 11 = .ok (.aload_n 0, 1) := by decide +kernel
theorem dX6_joined_12 : decode cX6_joined 12 = .ok (.getfield 7, 3) := by decide +kernel
theorem dX6_joined_15 : decode cX6_joined 15 = .ok (.if_icmp .gt 43, 3) := by decide +kernel
theorem dX6_joined_18 : decode cX6_joined 18 = .ok (.aload_n 0, 1) := by decide +kernel
theorem dX6_joined_19 : decode cX6_joined 19 = .ok (.getfield 13, 3) := by decide +kernel
theorem dX6_joined_22 : decode cX6_joined 22 = .ok (.iload_n 1, 1) := by decide +kernel
theorem dX6_joined_23 : decode cX6_joined 23 = .ok (.iload_n 2, 1) := by decide +kernel
theorem dX6_joined_24 : decode cX6_joined 24 = .ok (.iadd, 1) := by decide +kernel
theorem dX6_joined_25 : decode cX6_joined 25 = .ok (.iaload, 1) := by decide +kernel
theorem dX6_joined_26 : decode cX6_joined 26 = .ok (.ifCond .ge 32, 3) := by decide +kernel
theorem dX6_joined_29 : decode cX6_joined 29 = .ok (.aload_n 0, 1) := by decide +kernel
theorem dX6_joined_30 : decode cX6_joined 30 = .ok (.iload_n 1, 1) := by decide +kernel
theorem dX6_joined_31 : decode cX6_joined 31 = .ok (.iload_n 2, 1) := by decide +kernel
theorem dX6_joined_32 : decode cX6_joined 32 = .ok (.iadd, 1) := by decide +kernel
theorem dX6_joined_33 : decode cX6_joined 33 = .ok (.invokevirtual 37, 3) := by decide +kernel
theorem dX6_joined_36 : decode cX6_joined 36 = .ok (.istore 4, 2) := by decide +kernel
theorem dX6_joined_38 : decode cX6_joined 38 = .ok (.aload_n 0, 1) := by decide +kernel
theorem dX6_joined_39 : decode cX6_joined 39 = .ok (.getfield 13, 3) := by decide +kernel
theorem dX6_joined_42 : decode cX6_joined 42 = .ok (.iload_n 1, 1) := by decide +kernel
theorem dX6_joined_43 : decode cX6_joined 43 = .ok (.iload_n 2, 1) := by decide +kernel
theorem dX6_joined_44 : decode cX6_joined 44 = .ok (.iadd, 1) := by decide +kernel
theorem dX6_joined_45 : decode cX6_joined 45 = .ok (.iconst 0, 1) := by decide +kernel
theorem dX6_joined_46 : decode cX6_joined 46 = .ok (.iastore, 1) := by decide +kernel
theorem dX6_joined_47 : decode cX6_joined 47 = .ok (.iload_n 2, 1) := by decide +kernel
theorem dX6_joined_48 : decode cX6_joined 48 = .ok (.iload 4, 2) := by decide +kernel
theorem dX6_joined_50 : decode cX6_joined 50 = .ok (.iadd, 1) := by decide +kernel
theorem dX6_joined_51 : decode cX6_joined 51 = .ok (.istore_n 2, 1) := by decide +kernel
theorem dX6_joined_52 : decode cX6_joined 52 = .ok (.iinc 3 1, 3) := by decide +kernel
theorem dX6_joined_55 : decode cX6_joined 55 = .ok (.goto (-47), 3) := by decide +kernel
theorem dX6_joined_58 : decode cX6_joined 58 = .ok (.iload_n 3, 1) := by decide +kernel
theorem dX6_joined_59 : decode cX6_joined 59 = .ok (.ifCond .le 9, 3) := by decide +kernel
theorem dX6_joined_62 : decode cX6_joined 62 = .ok (.aload_n 0, 1) := by decide +kernel
theorem dX6_joined_63 : decode cX6_joined 63 = .ok (.iload_n 1, 1) := by decide +kernel
theorem dX6_joined_64 : decode cX6_joined 64 = .ok (.iload_n 2, 1) := by decide +kernel
theorem dX6_joined_65 : decode cX6_joined 65 = .ok (.invokevirtual 33, 3) := by decide +kernel
theorem dX6_joined_68 : decode cX6_joined 68 = .ok (.iload_n 3, 1) := by decide +kernel
theorem dX6_joined_69 : decode cX6_joined 69 = .ok (.ireturn, 1) := by decide +kernel
theorem dX6_join_0 : decode cX6_join 0 = .ok (.aload_n 0, 1) := by decide +kernel
theorem dX6_join_1 : decode cX6_join 1 = .ok (.aload_n 0, 1) := by decide +kernel
theorem dX6_join_2 : decode cX6_join 2 = .ok (.iload_n 1, 1) := by decide +kernel
theorem dX6_join_3 : decode cX6_join 3 = .ok (.invokevirtual 48, 3) := by decide +kernel
theorem dX6_join_6 : decode cX6_join 6 = .ok (.ifCond .eq 16, 3) := by decide +kernel
theorem dX6_join_9 : decode cX6_join 9 = .ok (.aload_n 0, 1) := by decide +kernel
theorem dX6_join_10 : decode cX6_join 10 = .ok (.getfield 13, 3) := by decide +kernel
theorem dX6_join_13 : decode cX6_join 13 = .ok (.iload_n 1, 1) := by decide +kernel
theorem dX6_join_14 : decode cX6_join 14 = .ok (.iaload, 1) := by decide +kernel
theorem dX6_join_15 : decode cX6_join 15 = .ok (.ifCond .ge 7, 3) := by decide +kernel
theorem dX6_join_18 : decode cX6_join 18 = .ok (.iconst 1, 1) := by decide +kernel
theorem dX6_join_19 : decode cX6_join 19 = .ok (.goto 4, 3) := by decide +kernel
theorem dX6_join_22 : decode cX6_join 22 = .ok (.iconst 0, 1) := by decide +kernel
theorem dX6_join_23 : decode cX6_join 23 = .ok (.invokevirtual 26, 3) := by decide +kernel
theorem dX6_join_26 : decode cX6_join 26 = .ok (.ifCond .ne 5, 3) := by decide +kernel
theorem dX6_join_29 : decode cX6_join 29 = .ok (.iconst 0, 1) := by decide +kernel
theorem dX6_join_30 : decode cX6_join 30 = .ok (.ireturn, 1) := by decide +kernel
theorem dX6_join_31 : decode cX6_join 31 = .ok (.aload_n 0, 1) := by decide +kernel
theorem dX6_join_32 : decode cX6_join 32 = .ok (.iload_n 1, 1) := by decide +kernel
theorem dX6_join_33 : decode cX6_join 33 = .ok (.invokevirtual 51, 3) := by decide +kernel
theorem dX6_join_36 : decode cX6_join 36 = .ok (.istore_n 2, 1) := by decide +kernel
theorem dX6_join_37 : decode cX6_join 37 = .ok (.aload_n 0, 1) := by decide +kernel
theorem dX6_join_38 : decode cX6_join 38 = .ok (.iload_n 1, 1) := by decide +kernel
theorem dX6_join_39 : decode cX6_join 39 = .ok (.invokevirtual 37, 3) := by decide +kernel
theorem dX6_join_42 : decode cX6_join 42 = .ok (.ireturn, 1) := by decide +kernel
theorem dX6_joinAll_0 : decode cX6_joinAll 0 = .ok (.aload_n 0, 1) := by decide +kernel
theorem dX6_joinAll_1 : decode cX6_joinAll 1 = .ok (.iconst 0, 1) := by decide +kernel
theorem dX6_joinAll_2 : decode cX6_joinAll 2 = .ok (.putfield 20, 3) := by decide +kernel
theorem dX6_joinAll_5 : decode cX6_joinAll 5 = .ok (.iconst 0, 1) := by decide +kernel
theorem dX6_joinAll_6 : decode cX6_joinAll 6 = .ok (.istore_n 1, 1) := by decide +kernel
theorem dX6_joinAll_7 : decode cX6_joinAll 7 = .ok (.iconst 1, 1) := by decide +kernel
theorem dX6_joinAll_8 : decode cX6_joinAll 8 = .ok (.istore_n 2, 1) := by decide +kernel
theorem dX6_joinAll_9 : decode cX6_joinAll 9 = .ok (.iload_n 2, 1) := by decide +kernel
theorem dX6_joinAll_10 : decode cX6_joinAll 10 = .ok (.aload_n 0, 1) := by decide +kernel
theorem dX6_joinAll_11 : decode cX6_joinAll 11 = .ok (.getfield 7, 3) := by decide +kernel
theorem dX6_joinAll_14 : decode cX6_joinAll 14 = .ok (.if_icmp .gt 35, 3) := by decide +kernel
theorem dX6_joinAll_17 : decode cX6_joinAll 17 = .ok (.aload_n 0, 1) := by decide +kernel
theorem dX6_joinAll_18 : decode cX6_joinAll 18 = .ok (.getfield 13, 3) := by decide +kernel
theorem dX6_joinAll_21 : decode cX6_joinAll 21 = .ok (.iload_n 2, 1) := by decide +kernel
theorem dX6_joinAll_22 : decode cX6_joinAll 22 = .ok (.iaload, 1) := by decide +kernel
theorem dX6_joinAll_23 : decode cX6_joinAll 23 = .ok (.ifCond .ge 13, 3) := by decide +kernel
theorem dX6_joinAll_26 : decode cX6_joinAll 26 = .ok (.iload_n 1, 1) := by decide +kernel
theorem dX6_joinAll_27 : decode cX6_joinAll 27 = .ok (.aload_n 0, 1) := by decide +kernel
theorem dX6_joinAll_28 : decode cX6_joinAll 28 = .ok (.iload_n 2, 1) := by decide +kernel
theorem dX6_joinAll_29 : decode cX6_joinAll 29 = .ok (.invokevirtual 51, 3) := by decide +kernel
theorem dX6_joinAll_32 : decode cX6_joinAll 32 = .ok (.iadd, 1) := by decide +kernel
theorem dX6_joinAll_33 : decode cX6_joinAll 33 = .ok (.goto 4, 3) := by decide +kernel
theorem dX6_joinAll_36 : decode cX6_joinAll 36 = .ok (.iload_n 1, 1) := by decide +kernel
theorem dX6_joinAll_37 : decode cX6_joinAll 37 = .ok (.istore_n 1, 1) := by decide +kernel
theorem dX6_joinAll_38 : decode cX6_joinAll 38 = .ok (.iload_n 2, 1) := by decide +kernel
theorem dX6_joinAll_39 : decode cX6_joinAll 39 = .ok (.aload_n 0, 1) := by decide +kernel
theorem dX6_joinAll_40 : decode cX6_joinAll 40 = .ok (.iload_n 2, 1) := by decide +kernel
theorem dX6_joinAll_41 : decode cX6_joinAll 41 = .ok (.invokevirtual 37, 3) := by decide +kernel
theorem dX6_joinAll_44 : decode cX6_joinAll 44 = .ok (.iadd, 1) := by decide +kernel
theorem dX6_joinAll_45 : decode cX6_joinAll 45 = .ok (.istore_n 2, 1) := by decide +kernel
theorem dX6_joinAll_46 : decode cX6_joinAll 46 = .ok (.goto (-37), 3) := by decide +kernel
theorem dX6_joinAll_49 : decode cX6_joinAll 49 = .ok (.iload_n 1, 1) := by decide +kernel
theorem dX6_joinAll_50 : decode cX6_joinAll 50 = .ok (.ireturn, 1) := by decide +kernel
theorem dX6_suffices_0 : decode cX6_suffices 0 = .ok (.aload_n 0, 1) := by decide +kernel
theorem dX6_suffices_1 : decode cX6_suffices 1 = .ok (.iload_n 1, 1) := by decide +kernel
theorem dX6_suffices_2 : decode cX6_suffices 2 = .ok (.invokestatic 41, 3) := by decide +kernel
theorem dX6_suffices_5 : decode cX6_suffices 5 = .ok (.invokevirtual 26, 3) := by decide +kernel
theorem dX6_suffices_8 : decode cX6_suffices 8 = .ok (.ifCond .eq 11, 3) := by decide +kernel
theorem dX6_suffices_11 : decode cX6_suffices 11 = .ok (.aload_n 0, 1) := by decide +kernel
theorem dX6_suffices_12 : decode cX6_suffices 12 = .ok (.iload_n 1, 1) := by decide +kernel
theorem dX6_suffices_13 : decode cX6_suffices 13 = .ok (.invokevirtual 45, 3) := by decide +kernel
theorem dX6_suffices_16 : decode cX6_suffices 16 = .ok (.goto 4, 3) := by decide +kernel
theorem dX6_suffices_19 : decode cX6_suffices 19 = .ok (.iconst 0, 1) := by decide +kernel
theorem dX6_suffices_20 : decode cX6_suffices 20 = .ok (.ireturn, 1) := by decide +kernel
theorem dX6_piece_0 : decode cX6_piece 0 = .ok (.aload_n 0, 1) := by decide +kernel
theorem dX6_piece_1 : decode cX6_piece 1 = .ok (.iconst 0, 1) := by decide +kernel
theorem dX6_piece_2 : decode cX6_piece 2 = .ok (.putfield 20, 3) := by decide +kernel
theorem dX6_piece_5 : decode cX6_piece 5 = .ok (.aload_n 0, 1) := by decide +kernel
theorem dX6_piece_6 : decode cX6_piece 6 = .ok (.iload_n 1, 1) := by decide +kernel
theorem dX6_piece_7 : decode cX6_piece 7 = .ok (.invokevirtual 48, 3) := by decide +kernel
theorem dX6_piece_10 : decode cX6_piece 10 = .ok (.ifCond .eq 12, 3) := by decide +kernel
theorem dX6_piece_13 : decode cX6_piece 13 = .ok (.aload_n 0, 1) := by decide +kernel
theorem dX6_piece_14 : decode cX6_piece 14 = .ok (.getfield 13, 3) := by decide +kernel
theorem dX6_piece_17 : decode cX6_piece 17 = .ok (.iload_n 1, 1) := by decide +kernel
theorem dX6_piece_18 : decode cX6_piece 18 = .ok (.iaload, 1) := by decide +kernel
theorem dX6_piece_19 : decode cX6_piece 19 = .ok (.goto 4, 3) := by decide +kernel
theorem dX6_piece_22 : decode cX6_piece 22 = .ok (.iconst 0, 1) := by decide +kernel
theorem dX6_piece_23 : decode cX6_piece 23 = .ok (.ireturn, 1) := by decide +kernel
theorem dX6_cover_0 : decode cX6_cover 0 = .ok (.aload_n 0, 1) := by decide +kernel
theorem dX6_cover_1 : decode cX6_cover 1 = .ok (.iconst 0, 1) := by decide +kernel
theorem dX6_cover_2 : decode cX6_cover 2 = .ok (.putfield 20, 3) := by decide +kernel
theorem dX6_cover_5 : decode cX6_cover 5 = .ok (.aload_n 0, 1) := by decide +kernel
theorem dX6_cover_6 : decode cX6_cover 6 = .ok (.iload_n 1, 1) := by decide +kernel
theorem dX6_cover_7 : decode cX6_cover 7 = .ok (.invokevirtual 48, 3) := by decide +kernel
theorem dX6_cover_10 : decode cX6_cover 10 = .ok (.ifCond .eq 7, 3) := by decide +kernel
theorem dX6_cover_13 : decode cX6_cover 13 = .ok (.iload_n 1, 1) := by decide +kernel
theorem dX6_cover_14 : decode cX6_cover 14 = .ok (.goto 4, 3) := by decide +kernel
theorem dX6_cover_17 : decode cX6_cover 17 = .ok (.iconst 0, 1) := by decide +kernel
theorem dX6_cover_18 : decode cX6_cover 18 = .ok (.istore_n 2, 1) := by decide +kernel
theorem dX6_cover_19 : decode cX6_cover 19 = .ok (.iload_n 2, 1) := by decide +kernel
theorem dX6_cover_20 : decode cX6_cover 20 = .ok (.ifCond .le 18, 3) := by decide +kernel
theorem dX6_cover_23 : decode cX6_cover 23 = .ok (.aload_n 0, 1) := by decide +kernel
theorem dX6_cover_24 : decode cX6_cover 24 = .ok (.getfield 13, 3) := by decide +kernel
theorem dX6_cover_27 : decode cX6_cover 27 = .ok (.iload_n 2, 1) := by decide +kernel
theorem dX6_cover_28 : decode cX6_cover 28 = .ok (.iaload, 1) := by decide +kernel
theorem dX6_cover_29 : decode cX6_cover 29 = .ok (.ifCond .ne 9, 3) := by decide +kernel
theorem dX6_cover_32 : decode cX6_cover 32 = .ok (.iinc 2 (-1), 3) := by decide +kernel
theorem dX6_cover_35 : decode cX6_cover 35 = .ok (.goto (-16), 3) := by decide +kernel
theorem dX6_cover_38 : decode cX6_cover 38 = .ok (.iload_n 2, 1) := by decide +kernel
theorem dX6_cover_39 : decode cX6_cover 39 = .ok (.ireturn, 1) := by decide +kernel
theorem dX6_free_0 : decode cX6_free 0 = .ok (.aload_n 0, 1) := by decide +kernel
theorem dX6_free_1 : decode cX6_free 1 = .ok (.iload_n 2, 1) := by decide +kernel
theorem dX6_free_2 : decode cX6_free 2 = .ok (.ifCond .lt 7, 3) := by decide +kernel
theorem dX6_free_5 : decode cX6_free 5 = .ok (.iconst 1, 1) := by decide +kernel
theorem dX6_free_6 : decode cX6_free 6 = .ok (.goto 4, 3) := by decide +kernel
theorem dX6_free_9 : decode cX6_free 9 = .ok (.iconst 0, 1) := by decide +kernel
theorem dX6_free_10 : decode cX6_free 10 = .ok (.invokevirtual 26, 3) := by decide +kernel
theorem dX6_free_13 : decode cX6_free 13 = .ok (.ifCond .eq 8, 3) := by decide +kernel
theorem dX6_free_16 : decode cX6_free 16 = .ok (.iload_n 1, 1) := by decide +kernel
theorem dX6_free_17 : decode cX6_free 17 = .ok (.iconst 3, 1) := by decide +kernel
theorem dX6_free_18 : decode cX6_free 18 = .ok (.if_icmp .ge 5, 3) := by decide +kernel
theorem dX6_free_21 : decode cX6_free 21 = .ok (.iconst 0, 1) := by decide +kernel
theorem dX6_free_22 : decode cX6_free 22 = .ok (.ireturn, 1) := by decide +kernel
theorem dX6_free_23 : decode cX6_free 23 = .ok (.iconst 1, 1) := by decide +kernel
theorem dX6_free_24 : decode cX6_free 24 = .ok (.istore_n 3, 1) := by decide +kernel
theorem dX6_free_25 : decode cX6_free 25 = .ok (.iload_n 3, 1) := by decide +kernel
theorem dX6_free_26 : decode cX6_free 26 = .ok (.aload_n 0, 1) := by decide +kernel
theorem dX6_free_27 : decode cX6_free 27 = .ok (.getfield 7, 3) := by decide +kernel
theorem dX6_free_30 : decode cX6_free 30 = .ok (.if_icmp .gt 103, 3) := by decide +kernel
theorem dX6_free_33 : decode cX6_free 33 = .ok (.iconst 0, 1) := by decide +kernel
theorem dX6_free_34 : decode cX6_free 34 = .ok (.istore 4, 2) := by decide +kernel
theorem dX6_free_36 : decode cX6_free 36 = .ok (.iconst 1, 1) := by decide +kernel
theorem dX6_free_37 : decode cX6_free 37 = .ok (.istore 5, 2) := by decide +kernel
theorem dX6_free_39 : decode cX6_free 39 = .ok (.iload 5, 2) := by decide +kernel
theorem dX6_free_41 : decode cX6_free 41 = .ok (.aload_n 0, 1) := by decide +kernel
theorem dX6_free_42 : decode cX6_free 42 = .ok (.getfield 7, 3) := by decide +kernel
theorem dX6_free_45 : decode cX6_free 45 = .ok (.if_icmp .gt 57, 3) := by decide +kernel
theorem dX6_free_48 : decode cX6_free 48 = .ok (.aload_n 0, 1) := by decide +kernel
theorem dX6_free_49 : decode cX6_free 49 = .ok (.getfield 13, 3) := by decide +kernel
theorem dX6_free_52 : decode cX6_free 52 = .ok (.iload 5, 2) := by decide +kernel
theorem dX6_free_54 : decode cX6_free 54 = .ok (.iaload, 1) := by decide +kernel
theorem dX6_free_55 : decode cX6_free 55 = .ok (.iconst 0, 1) := by decide +kernel
theorem dX6_free_56 : decode cX6_free 56 = .ok (.iload_n 1, 1) := by decide +kernel
theorem dX6_free_57 : decode cX6_free 57 = .ok (.isub, 1) := by decide +kernel
theorem dX6_free_58 : decode cX6_free 58 = .ok (.if_icmp .ne 26, 3) := by decide +kernel
theorem dX6_free_61 : decode cX6_free 61 = .ok (.aload_n 0, 1) := by decide +kernel
theorem dX6_free_62 : decode cX6_free 62 = .ok (.getfield 17, 3) := by decide +kernel
theorem dX6_free_65 : decode cX6_free 65 = .ok (.iload 5, 2) := by decide +kernel
theorem dX6_free_67 : decode cX6_free 67 = .ok (.iaload, 1) := by decide +kernel
theorem dX6_free_68 : decode cX6_free 68 = .ok (.aload_n 0, 1) := by decide +kernel
theorem dX6_free_69 : decode cX6_free 69 = .ok (.getfield 17, 3) := by decide +kernel
theorem dX6_free_72 : decode cX6_free 72 = .ok (.iload_n 3, 1) := by decide +kernel
theorem dX6_free_73 : decode cX6_free 73 = .ok (.iaload, 1) := by decide +kernel
theorem dX6_free_74 : decode cX6_free 74 = .ok (.if_icmp .le 10, 3) := by decide +kernel
theorem dX6_free_77 : decode cX6_free 77 = .ok (.iload 4, 2) := by decide +kernel
theorem dX6_free_79 : decode cX6_free 79 = .ok (.iconst 1, 1) := by decide +kernel
theorem dX6_free_80 : decode cX6_free 80 = .ok (.iadd, 1) := by decide +kernel
theorem dX6_free_81 : decode cX6_free 81 = .ok (.goto 5, 3) := by decide +kernel
theorem dX6_free_84 : decode cX6_free 84 = .ok (.iload 4, 2) := by decide +kernel
theorem dX6_free_86 : decode cX6_free 86 = .ok (.istore 4, 2) := by decide +kernel
theorem dX6_free_88 : decode cX6_free 88 = .ok (.iload 5, 2) := by decide +kernel
theorem dX6_free_90 : decode cX6_free 90 = .ok (.aload_n 0, 1) := by decide +kernel
theorem dX6_free_91 : decode cX6_free 91 = .ok (.iload 5, 2) := by decide +kernel
theorem dX6_free_93 : decode cX6_free 93 = .ok (.invokevirtual 37, 3) := by decide +kernel
theorem dX6_free_96 : decode cX6_free 96 = .ok (.iadd, 1) := by decide +kernel
theorem dX6_free_97 : decode cX6_free 97 = .ok (.istore 5, 2) := by decide +kernel
theorem dX6_free_99 : decode cX6_free 99 = .ok (.goto (-60), 3) := by decide +kernel
theorem dX6_free_102 : decode cX6_free 102 = .ok (.aload_n 0, 1) := by decide +kernel
theorem dX6_free_103 : decode cX6_free 103 = .ok (.getfield 13, 3) := by decide +kernel
theorem dX6_free_106 : decode cX6_free 106 = .ok (.iload_n 3, 1) := by decide +kernel
theorem dX6_free_107 : decode cX6_free 107 = .ok (.iaload, 1) := by decide +kernel
theorem dX6_free_108 : decode cX6_free 108 = .ok (.iconst 0, 1) := by decide +kernel
theorem dX6_free_109 : decode cX6_free 109 = .ok (.iload_n 1, 1) := by decide +kernel
theorem dX6_free_110 : decode cX6_free 110 = .ok (.isub, 1) := by decide +kernel
theorem dX6_free_111 : decode cX6_free 111 = .ok (.if_icmp .ne 11, 3) := by decide +kernel
theorem dX6_free_114 : decode cX6_free 114 = .ok (.iload 4, 2) := by decide +kernel
theorem dX6_free_116 : decode cX6_free 116 = .ok (.iload_n 2, 1) := by decide +kernel
theorem dX6_free_117 : decode cX6_free 117 = .ok (.if_icmp .ne 5, 3) := by decide +kernel
theorem dX6_free_120 : decode cX6_free 120 = .ok (.iload_n 3, 1) := by decide +kernel
theorem dX6_free_121 : decode cX6_free 121 = .ok (.ireturn, 1) := by decide +kernel
theorem dX6_free_122 : decode cX6_free 122 = .ok (.iload_n 3, 1) := by decide +kernel
theorem dX6_free_123 : decode cX6_free 123 = .ok (.aload_n 0, 1) := by decide +kernel
theorem dX6_free_124 : decode cX6_free 124 = .ok (.iload_n 3, 1) := by decide +kernel
theorem dX6_free_125 : decode cX6_free 125 = .ok (.invokevirtual 37, 3) := by decide +kernel
theorem dX6_free_128 : decode cX6_free 128 = .ok (.iadd, 1) := by decide +kernel
theorem dX6_free_129 : decode cX6_free 129 = .ok (.istore_n 3, 1) := by decide +kernel
theorem dX6_free_130 : decode cX6_free 130 = .ok (.goto (-105), 3) := by decide +kernel
theorem dX6_free_133 : decode cX6_free 133 = .ok (.iconst 0, 1) := by decide +kernel
theorem dX6_free_134 : decode cX6_free 134 = .ok (.ireturn, 1) := by decide +kernel
theorem dX6_greatest_0 : decode cX6_greatest 0 = .ok (.iconst 0, 1) := by decide +kernel
theorem dX6_greatest_1 : decode cX6_greatest 1 = .ok (.istore_n 1, 1) := by decide +kernel
theorem dX6_greatest_2 : decode cX6_greatest 2 = .ok (.iconst 1, 1) := by decide +kernel
theorem dX6_greatest_3 : decode cX6_greatest 3 = .ok (.istore_n 2, 1) := by decide +kernel
theorem dX6_greatest_4 : decode cX6_greatest 4 = .ok (.iload_n 2, 1) := by decide +kernel
theorem dX6_greatest_5 : decode cX6_greatest 5 = .ok (.aload_n 0, 1) := by decide +kernel
theorem dX6_greatest_6 : decode cX6_greatest 6 = .ok (.getfield 7, 3) := by decide +kernel
theorem dX6_greatest_9 : decode cX6_greatest 9 = .ok (.if_icmp .gt 42, 3) := by decide +kernel
theorem dX6_greatest_12 : decode cX6_greatest 12 = .ok (.aload_n 0, 1) := by decide +kernel
theorem dX6_greatest_13 : decode cX6_greatest 13 = .ok (.getfield 13, 3) := by decide +kernel
theorem dX6_greatest_16 : decode cX6_greatest 16 = .ok (.iload_n 2, 1) := by decide +kernel
theorem dX6_greatest_17 : decode cX6_greatest 17 = .ok (.iaload, 1) := by decide +kernel
theorem dX6_greatest_18 : decode cX6_greatest 18 = .ok (.ifCond .ge 20, 3) := by decide +kernel
theorem dX6_greatest_21 : decode cX6_greatest 21 = .ok (.aload_n 0, 1) := by decide +kernel
theorem dX6_greatest_22 : decode cX6_greatest 22 = .ok (.iload_n 2, 1) := by decide +kernel
theorem dX6_greatest_23 : decode cX6_greatest 23 = .ok (.invokevirtual 37, 3) := by decide +kernel
theorem dX6_greatest_26 : decode cX6_greatest 26 = .ok (.iload_n 1, 1) := by decide +kernel
theorem dX6_greatest_27 : decode cX6_greatest 27 = .ok (.if_icmp .le 11, 3) := by decide +kernel
theorem dX6_greatest_30 : decode cX6_greatest 30 = .ok (.aload_n 0, 1) := by decide +kernel
theorem dX6_greatest_31 : decode cX6_greatest 31 = .ok (.iload_n 2, 1) := by decide +kernel
theorem dX6_greatest_32 : decode cX6_greatest 32 = .ok (.invokevirtual 37, 3) := by decide +kernel
theorem dX6_greatest_35 : decode cX6_greatest 35 = .ok (.goto 4, 3) := by decide +kernel
theorem dX6_greatest_38 : decode cX6_greatest 38 = .ok (.iload_n 1, 1) := by decide +kernel
theorem dX6_greatest_39 : decode cX6_greatest 39 = .ok (.istore_n 1, 1) := by decide +kernel
theorem dX6_greatest_40 : decode cX6_greatest 40 = .ok (.iload_n 2, 1) := by decide +kernel
theorem dX6_greatest_41 : decode cX6_greatest 41 = .ok (.aload_n 0, 1) := by decide +kernel
theorem dX6_greatest_42 : decode cX6_greatest 42 = .ok (.iload_n 2, 1) := by decide +kernel
theorem dX6_greatest_43 : decode cX6_greatest 43 = .ok (.invokevirtual 37, 3) := by decide +kernel
theorem dX6_greatest_46 : decode cX6_greatest 46 = .ok (.iadd, 1) := by decide +kernel
theorem dX6_greatest_47 : decode cX6_greatest 47 = .ok (.istore_n 2, 1) := by decide +kernel
theorem dX6_greatest_48 : decode cX6_greatest 48 = .ok (.goto (-44), 3) := by decide +kernel
theorem dX6_greatest_51 : decode cX6_greatest 51 = .ok (.iload_n 1, 1) := by decide +kernel
theorem dX6_greatest_52 : decode cX6_greatest 52 = .ok (.ireturn, 1) := by decide +kernel
theorem dX6_count_0 : decode cX6_count 0 = .ok (.aload_n 0, 1) := by decide +kernel
theorem dX6_count_1 : decode cX6_count 1 = .ok (.iload_n 1, 1) := by decide +kernel
theorem dX6_count_2 : decode cX6_count 2 = .ok (.ifCond .lt 13, 3) := by decide +kernel
theorem dX6_count_5 : decode cX6_count 5 = .ok (.iload_n 1, 1) := by decide +kernel
theorem dX6_count_6 : decode cX6_count 6 = .ok (.bipush 7, 2) := by decide +kernel
theorem dX6_count_8 : decode cX6_count 8 = .ok (.if_icmp .gt 7, 3) := by decide +kernel
theorem dX6_count_11 : decode cX6_count 11 = .ok (.iconst 1, 1) := by decide +kernel
theorem dX6_count_12 : decode cX6_count 12 = .ok (.goto 4, 3) := by decide +kernel
theorem dX6_count_15 : decode cX6_count 15 = .ok (.iconst 0, 1) := by decide +kernel
theorem dX6_count_16 : decode cX6_count 16 = .ok (.invokevirtual 26, 3) := by decide +kernel
theorem dX6_count_19 : decode cX6_count 19 = .ok (.ifCond .ne 5, 3) := by decide +kernel
theorem dX6_count_22 : decode cX6_count 22 = .ok (.iconst 0, 1) := by decide +kernel
theorem dX6_count_23 : decode cX6_count 23 = .ok (.ireturn, 1) := by decide +kernel
theorem dX6_count_24 : decode cX6_count 24 = .ok (.iconst 0, 1) := by decide +kernel
theorem dX6_count_25 : decode cX6_count 25 = .ok (.istore_n 2, 1) := by decide +kernel
theorem dX6_count_26 : decode cX6_count 26 = .ok (.iconst 0, 1) := by decide +kernel
theorem dX6_count_27 : decode cX6_count 27 = .ok (.istore_n 3, 1) := by decide +kernel
theorem dX6_count_28 : decode cX6_count 28 = .ok (.iconst 0, 1) := by decide +kernel
theorem dX6_count_29 : decode cX6_count 29 = .ok (.istore 4, 2) := by decide +kernel
theorem dX6_count_31 : decode cX6_count 31 = .ok (.iconst 0, 1) := by decide +kernel
theorem dX6_count_32 : decode cX6_count 32 = .ok (.istore 5, 2) := by decide +kernel
theorem dX6_count_34 : decode cX6_count 34 = .ok (.iconst 0, 1) := by decide +kernel
theorem dX6_count_35 : decode cX6_count 35 = .ok (.istore 6, 2) := by decide +kernel
theorem dX6_count_37 : decode cX6_count 37 = .ok (.iconst 1, 1) := by decide +kernel
theorem dX6_count_38 : decode cX6_count 38 = .ok (.istore 7, 2) := by decide +kernel
theorem dX6_count_40 : decode cX6_count 40 = .ok (.iload 7, 2) := by decide +kernel
theorem dX6_count_42 : decode cX6_count 42 = .ok (.aload_n 0, 1) := by decide +kernel
theorem dX6_count_43 : decode cX6_count 43 = .ok (.getfield 7, 3) := by decide +kernel
theorem dX6_count_46 : decode cX6_count 46 = .ok (.if_icmp .gt 152, 3) := by decide +kernel
theorem dX6_count_49 : decode cX6_count 49 = .ok (.aload_n 0, 1) := by decide +kernel
theorem dX6_count_50 : decode cX6_count 50 = .ok (.getfield 13, 3) := by decide +kernel
theorem dX6_count_53 : decode cX6_count 53 = .ok (.iload 7, 2) := by decide +kernel
theorem dX6_count_55 : decode cX6_count 55 = .ok (.iaload, 1) := by decide +kernel
theorem dX6_count_56 : decode cX6_count 56 = .ok (.ifCond .le 9, 3) := by decide +kernel
theorem dX6_count_59 : decode cX6_count 59 = .ok (.iload_n 3, 1) := by decide +kernel
theorem dX6_count_60 : decode cX6_count 60 = .ok (.iconst 1, 1) := by decide +kernel
theorem dX6_count_61 : decode cX6_count 61 = .ok (.iadd, 1) := by decide +kernel
theorem dX6_count_62 : decode cX6_count 62 = .ok (.goto 4, 3) := by decide +kernel
theorem dX6_count_65 : decode cX6_count 65 = .ok (.iload_n 3, 1) := by decide +kernel
theorem dX6_count_66 : decode cX6_count 66 = .ok (.istore_n 3, 1) := by decide +kernel
theorem dX6_count_67 : decode cX6_count 67 = .ok (.aload_n 0, 1) := by decide +kernel
theorem dX6_count_68 : decode cX6_count 68 = .ok (.getfield 13, 3) := by decide +kernel
theorem dX6_count_71 : decode cX6_count 71 = .ok (.iload 7, 2) := by decide +kernel
theorem dX6_count_73 : decode cX6_count 73 = .ok (.iaload, 1) := by decide +kernel
theorem dX6_count_74 : decode cX6_count 74 = .ok (.ifCond .ge 14, 3) := by decide +kernel
theorem dX6_count_77 : decode cX6_count 77 = .ok (.iload_n 2, 1) := by decide +kernel
theorem dX6_count_78 : decode cX6_count 78 = .ok (.aload_n 0, 1) := by decide +kernel
theorem dX6_count_79 : decode cX6_count 79 = .ok (.iload 7, 2) := by decide +kernel
theorem dX6_count_81 : decode cX6_count 81 = .ok (.invokevirtual 37, 3) := by decide +kernel
theorem dX6_count_84 : decode cX6_count 84 = .ok (.iadd, 1) := by decide +kernel
theorem dX6_count_85 : decode cX6_count 85 = .ok (.goto 4, 3) := by decide +kernel
theorem dX6_count_88 : decode cX6_count 88 = .ok (.iload_n 2, 1) := by decide +kernel
theorem dX6_count_89 : decode cX6_count 89 = .ok (.istore_n 2, 1) := by decide +kernel
theorem dX6_count_90 : decode cX6_count 90 = .ok (.aload_n 0, 1) := by decide +kernel
theorem dX6_count_91 : decode cX6_count 91 = .ok (.getfield 13, 3) := by decide +kernel
theorem dX6_count_94 : decode cX6_count 94 = .ok (.iload 7, 2) := by decide +kernel
theorem dX6_count_96 : decode cX6_count 96 = .ok (.iaload, 1) := by decide +kernel
theorem dX6_count_97 : decode cX6_count 97 = .ok (.bipush (-3), 2) := by decide +kernel
theorem dX6_count_99 : decode cX6_count 99 = .ok (.if_icmp .gt 10, 3) := by decide +kernel
theorem dX6_count_102 : decode cX6_count 102 = .ok (.iload 4, 2) := by decide +kernel
theorem dX6_count_104 : decode cX6_count 104 = .ok (.iconst 1, 1) := by decide +kernel
theorem dX6_count_105 : decode cX6_count 105 = .ok (.iadd, 1) := by decide +kernel
theorem dX6_count_106 : decode cX6_count 106 = .ok (.goto 5, 3) := by decide +kernel
theorem dX6_count_109 : decode cX6_count 109 = .ok (.iload 4, 2) := by decide +kernel
theorem dX6_count_111 : decode cX6_count 111 = .ok (.istore 4, 2) := by decide +kernel
theorem dX6_count_113 : decode cX6_count 113 = .ok (.aload_n 0, 1) := by decide +kernel
theorem dX6_count_114 : decode cX6_count 114 = .ok (.getfield 13, 3) := by decide +kernel
theorem dX6_count_117 : decode cX6_count 117 = .ok (.iload 7, 2) := by decide +kernel
theorem dX6_count_119 : decode cX6_count 119 = .ok (.iaload, 1) := by decide +kernel
theorem dX6_count_120 : decode cX6_count 120 = .ok (.ifCond .ge 22, 3) := by decide +kernel
theorem dX6_count_123 : decode cX6_count 123 = .ok (.aload_n 0, 1) := by decide +kernel
theorem dX6_count_124 : decode cX6_count 124 = .ok (.getfield 13, 3) := by decide +kernel
theorem dX6_count_127 : decode cX6_count 127 = .ok (.iload 7, 2) := by decide +kernel
theorem dX6_count_129 : decode cX6_count 129 = .ok (.iaload, 1) := by decide +kernel
theorem dX6_count_130 : decode cX6_count 130 = .ok (.bipush (-3), 2) := by decide +kernel
theorem dX6_count_132 : decode cX6_count 132 = .ok (.if_icmp .le 10, 3) := by decide +kernel
theorem dX6_count_135 : decode cX6_count 135 = .ok (.iload 5, 2) := by decide +kernel
theorem dX6_count_137 : decode cX6_count 137 = .ok (.iconst 1, 1) := by decide +kernel
theorem dX6_count_138 : decode cX6_count 138 = .ok (.iadd, 1) := by decide +kernel
theorem dX6_count_139 : decode cX6_count 139 = .ok (.goto 5, 3) := by decide +kernel
theorem dX6_count_142 : decode cX6_count 142 = .ok (.iload 5, 2) := by decide +kernel
theorem dX6_count_144 : decode cX6_count 144 = .ok (.istore 5, 2) := by decide +kernel
theorem dX6_count_146 : decode cX6_count 146 = .ok (.aload_n 0, 1) := by decide +kernel
theorem dX6_count_147 : decode cX6_count 147 = .ok (.getfield 13, 3) := by decide +kernel
theorem dX6_count_150 : decode cX6_count 150 = .ok (.iload 7, 2) := by decide +kernel
theorem dX6_count_152 : decode cX6_count 152 = .ok (.iaload, 1) := by decide +kernel
theorem dX6_count_153 : decode cX6_count 153 = .ok (.ifCond .ge 27, 3) := by decide +kernel
theorem dX6_count_156 : decode cX6_count 156 = .ok (.aload_n 0, 1) := by decide +kernel
theorem dX6_count_157 : decode cX6_count 157 = .ok (.getfield 13, 3) := by decide +kernel
theorem dX6_count_160 : decode cX6_count 160 = .ok (.iload 7, 2) := by decide +kernel
theorem dX6_count_162 : decode cX6_count 162 = .ok (.iaload, 1) := by decide +kernel
theorem dX6_count_163 : decode cX6_count 163 = .ok (.bipush (-3), 2) := by decide +kernel
theorem dX6_count_165 : decode cX6_count 165 = .ok (.if_icmp .le 15, 3) := by decide +kernel
theorem dX6_count_168 : decode cX6_count 168 = .ok (.iload 6, 2) := by decide +kernel
theorem dX6_count_170 : decode cX6_count 170 = .ok (.aload_n 0, 1) := by decide +kernel
theorem dX6_count_171 : decode cX6_count 171 = .ok (.iload 7, 2) := by decide +kernel
theorem dX6_count_173 : decode cX6_count 173 = .ok (.invokevirtual 37, 3) := by decide +kernel
theorem dX6_count_176 : decode cX6_count 176 = .ok (.iadd, 1) := by decide +kernel
theorem dX6_count_177 : decode cX6_count 177 = .ok (.goto 5, 3) := by decide +kernel
theorem dX6_count_180 : decode cX6_count 180 = .ok (.iload 6, 2) := by decide +kernel
theorem dX6_count_182 : decode cX6_count 182 = .ok (.istore 6, 2) := by decide +kernel
theorem dX6_count_184 : decode cX6_count 184 = .ok (.iload 7, 2) := by decide +kernel
theorem dX6_count_186 : decode cX6_count 186 = .ok (.aload_n 0, 1) := by decide +kernel
theorem dX6_count_187 : decode cX6_count 187 = .ok (.iload 7, 2) := by decide +kernel
theorem dX6_count_189 : decode cX6_count 189 = .ok (.invokevirtual 37, 3) := by decide +kernel
theorem dX6_count_192 : decode cX6_count 192 = .ok (.iadd, 1) := by decide +kernel
theorem dX6_count_193 : decode cX6_count 193 = .ok (.istore 7, 2) := by decide +kernel
theorem dX6_count_195 : decode cX6_count 195 = .ok (.goto (-155), 3) := by decide +kernel
theorem dX6_count_198 : decode cX6_count 198 = .ok (.iload_n 1, 1) := by decide +kernel
theorem dX6_count_199 : decode cX6_count 199 = .ok (.tableswitch 64 0 6 #[41, 43, 46, 48, 51, 54, 59], 41) := by decide +kernel
theorem dX6_count_240 : decode cX6_count 240 = .ok (.iload_n 2, 1) := by decide +kernel
theorem dX6_count_241 : decode cX6_count 241 = .ok (.ireturn, 1) := by decide +kernel
theorem dX6_count_242 : decode cX6_count 242 = .ok (.iload 6, 2) := by decide +kernel
theorem dX6_count_244 : decode cX6_count 244 = .ok (.ireturn, 1) := by decide +kernel
theorem dX6_count_245 : decode cX6_count 245 = .ok (.iload_n 3, 1) := by decide +kernel
theorem dX6_count_246 : decode cX6_count 246 = .ok (.ireturn, 1) := by decide +kernel
theorem dX6_count_247 : decode cX6_count 247 = .ok (.iload 4, 2) := by decide +kernel
theorem dX6_count_249 : decode cX6_count 249 = .ok (.ireturn, 1) := by decide +kernel
theorem dX6_count_250 : decode cX6_count 250 = .ok (.iload 5, 2) := by decide +kernel
theorem dX6_count_252 : decode cX6_count 252 = .ok (.ireturn, 1) := by decide +kernel
theorem dX6_count_253 : decode cX6_count 253 = .ok (.aload_n 0, 1) := by decide +kernel
theorem dX6_count_254 : decode cX6_count 254 = .ok (.invokevirtual 54, 3) := by decide +kernel
theorem dX6_count_257 : decode cX6_count 257 = .ok (.ireturn, 1) := by decide +kernel
theorem dX6_count_258 : decode cX6_count 258 = .ok (.aload_n 0, 1) := by decide +kernel
theorem dX6_count_259 : decode cX6_count 259 = .ok (.getfield 30, 3) := by decide +kernel
theorem dX6_count_262 : decode cX6_count 262 = .ok (.ireturn, 1) := by decide +kernel
theorem dX6_count_263 : decode cX6_count 263 = .ok (.aload_n 0, 1) := by decide +kernel
theorem dX6_count_264 : decode cX6_count 264 = .ok (.getfield 7, 3) := by decide +kernel
theorem dX6_count_267 : decode cX6_count 267 = .ok (.ireturn, 1) := by decide +kernel
theorem dX6_faults_0 : decode cX6_faults 0 = .ok (.aload_n 0, 1) := by decide +kernel
theorem dX6_faults_1 : decode cX6_faults 1 = .ok (.iconst 0, 1) := by decide +kernel
theorem dX6_faults_2 : decode cX6_faults 2 = .ok (.putfield 20, 3) := by decide +kernel
theorem dX6_faults_5 : decode cX6_faults 5 = .ok (.iconst 0, 1) := by decide +kernel
theorem dX6_faults_6 : decode cX6_faults 6 = .ok (.ireturn, 1) := by decide +kernel
theorem dJ9_max_7cf53_0 : decode cJ9_max_7cf53 0 = .ok (.iload_n 0, 1) := by decide +kernel
theorem dJ9_max_7cf53_1 : decode cJ9_max_7cf53 1 = .ok (.iload_n 1, 1) := by decide +kernel
theorem dJ9_max_7cf53_2 : decode cJ9_max_7cf53 2 = .ok (.if_icmp .lt 7, 3) := by decide +kernel
theorem dJ9_max_7cf53_5 : decode cJ9_max_7cf53 5 = .ok (.iload_n 0, 1) := by decide +kernel
theorem dJ9_max_7cf53_6 : decode cJ9_max_7cf53 6 = .ok (.goto 4, 3) := by decide +kernel
theorem dJ9_max_7cf53_9 : decode cJ9_max_7cf53 9 = .ok (.iload_n 1, 1) := by decide +kernel
theorem dJ9_max_7cf53_10 : decode cJ9_max_7cf53 10 = .ok (.ireturn, 1) := by decide +kernel
theorem dL_space_0 : decode cL_space 0 = .ok (.aload_n 2, 1) := by decide +kernel
theorem dL_space_1 : decode cL_space 1 = .ok (.iconst 0, 1) := by decide +kernel
theorem dL_space_2 : decode cL_space 2 = .ok (.aload_n 0, 1) := by decide +kernel
theorem dL_space_3 : decode cL_space 3 = .ok (.iload_n 1, 1) := by decide +kernel
theorem dL_space_4 : decode cL_space 4 = .ok (.invokevirtual 7, 3) := by decide +kernel
theorem dL_space_7 : decode cL_space 7 = .ok (.i2l, 1) := by decide +kernel
theorem dL_space_8 : decode cL_space 8 = .ok (.lastore, 1) := by decide +kernel
theorem dL_space_9 : decode cL_space 9 = .ok (.goto 6, 3) := by decide +kernel
theorem dL_space_12 : decode cL_space 12 = .ok (.astore_n 3, 1) := by decide +kernel
theorem dL_space_13 : decode cL_space 13 = .ok (.iconst 1, 1) := by decide +kernel
theorem dL_space_14 : decode cL_space 14 = .ok (.ireturn, 1) := by decide +kernel
theorem dL_space_15 : decode cL_space 15 = .ok (.iconst 0, 1) := by decide +kernel
theorem dL_space_16 : decode cL_space 16 = .ok (.ireturn, 1) := by decide +kernel
theorem dL_take_0 : decode cL_take 0 = .ok (.aload_n 2, 1) := by decide +kernel
theorem dL_take_1 : decode cL_take 1 = .ok (.iconst 0, 1) := by decide +kernel
theorem dL_take_2 : decode cL_take 2 = .ok (.aload_n 0, 1) := by decide +kernel
theorem dL_take_3 : decode cL_take 3 = .ok (.iload_n 1, 1) := by decide +kernel
theorem dL_take_4 : decode cL_take 4 = .ok (.invokevirtual 15, 3) := by decide +kernel
theorem dL_take_7 : decode cL_take 7 = .ok (.i2l, 1) := by decide +kernel
theorem dL_take_8 : decode cL_take 8 = .ok (.lastore, 1) := by decide +kernel
theorem dL_take_9 : decode cL_take 9 = .ok (.goto 6, 3) := by decide +kernel
theorem dL_take_12 : decode cL_take 12 = .ok (.astore_n 3, 1) := by decide +kernel
theorem dL_take_13 : decode cL_take 13 = .ok (.iconst 1, 1) := by decide +kernel
theorem dL_take_14 : decode cL_take 14 = .ok (.ireturn, 1) := by decide +kernel
theorem dL_take_15 : decode cL_take 15 = .ok (.iconst 0, 1) := by decide +kernel
theorem dL_take_16 : decode cL_take 16 = .ok (.ireturn, 1) := by decide +kernel
theorem dL_give_0 : decode cL_give 0 = .ok (.aload_n 2, 1) := by decide +kernel
theorem dL_give_1 : decode cL_give 1 = .ok (.iconst 0, 1) := by decide +kernel
theorem dL_give_2 : decode cL_give 2 = .ok (.aload_n 0, 1) := by decide +kernel
theorem dL_give_3 : decode cL_give 3 = .ok (.iload_n 1, 1) := by decide +kernel
theorem dL_give_4 : decode cL_give 4 = .ok (.invokevirtual 18, 3) := by decide +kernel
theorem dL_give_7 : decode cL_give 7 = .ok (.i2l, 1) := by decide +kernel
theorem dL_give_8 : decode cL_give 8 = .ok (.lastore, 1) := by decide +kernel
theorem dL_give_9 : decode cL_give 9 = .ok (.goto 6, 3) := by decide +kernel
theorem dL_give_12 : decode cL_give 12 = .ok (.astore_n 3, 1) := by decide +kernel
theorem dL_give_13 : decode cL_give 13 = .ok (.iconst 1, 1) := by decide +kernel
theorem dL_give_14 : decode cL_give 14 = .ok (.ireturn, 1) := by decide +kernel
theorem dL_give_15 : decode cL_give 15 = .ok (.iconst 0, 1) := by decide +kernel
theorem dL_give_16 : decode cL_give 16 = .ok (.ireturn, 1) := by decide +kernel
theorem dL_join_0 : decode cL_join 0 = .ok (.aload_n 2, 1) := by decide +kernel
theorem dL_join_1 : decode cL_join 1 = .ok (.iconst 0, 1) := by decide +kernel
theorem dL_join_2 : decode cL_join 2 = .ok (.aload_n 0, 1) := by decide +kernel
theorem dL_join_3 : decode cL_join 3 = .ok (.iload_n 1, 1) := by decide +kernel
theorem dL_join_4 : decode cL_join 4 = .ok (.invokevirtual 23, 3) := by decide +kernel
theorem dL_join_7 : decode cL_join 7 = .ok (.i2l, 1) := by decide +kernel
theorem dL_join_8 : decode cL_join 8 = .ok (.lastore, 1) := by decide +kernel
theorem dL_join_9 : decode cL_join 9 = .ok (.goto 6, 3) := by decide +kernel
theorem dL_join_12 : decode cL_join 12 = .ok (.astore_n 3, 1) := by decide +kernel
theorem dL_join_13 : decode cL_join 13 = .ok (.iconst 1, 1) := by decide +kernel
theorem dL_join_14 : decode cL_join 14 = .ok (.ireturn, 1) := by decide +kernel
theorem dL_join_15 : decode cL_join 15 = .ok (.iconst 0, 1) := by decide +kernel
theorem dL_join_16 : decode cL_join 16 = .ok (.ireturn, 1) := by decide +kernel
theorem dL_suffices_0 : decode cL_suffices 0 = .ok (.aload_n 2, 1) := by decide +kernel
theorem dL_suffices_1 : decode cL_suffices 1 = .ok (.iconst 0, 1) := by decide +kernel
theorem dL_suffices_2 : decode cL_suffices 2 = .ok (.aload_n 0, 1) := by decide +kernel
theorem dL_suffices_3 : decode cL_suffices 3 = .ok (.iload_n 1, 1) := by decide +kernel
theorem dL_suffices_4 : decode cL_suffices 4 = .ok (.invokevirtual 26, 3) := by decide +kernel
theorem dL_suffices_7 : decode cL_suffices 7 = .ok (.i2l, 1) := by decide +kernel
theorem dL_suffices_8 : decode cL_suffices 8 = .ok (.lastore, 1) := by decide +kernel
theorem dL_suffices_9 : decode cL_suffices 9 = .ok (.goto 6, 3) := by decide +kernel
theorem dL_suffices_12 : decode cL_suffices 12 = .ok (.astore_n 3, 1) := by decide +kernel
theorem dL_suffices_13 : decode cL_suffices 13 = .ok (.iconst 1, 1) := by decide +kernel
theorem dL_suffices_14 : decode cL_suffices 14 = .ok (.ireturn, 1) := by decide +kernel
theorem dL_suffices_15 : decode cL_suffices 15 = .ok (.iconst 0, 1) := by decide +kernel
theorem dL_suffices_16 : decode cL_suffices 16 = .ok (.ireturn, 1) := by decide +kernel
theorem dL_free_0 : decode cL_free 0 = .ok (.aload_n 3, 1) := by decide +kernel
theorem dL_free_1 : decode cL_free 1 = .ok (.iconst 0, 1) := by decide +kernel
theorem dL_free_2 : decode cL_free 2 = .ok (.aload_n 0, 1) := by decide +kernel
theorem dL_free_3 : decode cL_free 3 = .ok (.iload_n 1, 1) := by decide +kernel
theorem dL_free_4 : decode cL_free 4 = .ok (.iload_n 2, 1) := by decide +kernel
theorem dL_free_5 : decode cL_free 5 = .ok (.invokevirtual 29, 3) := by decide +kernel
theorem dL_free_8 : decode cL_free 8 = .ok (.i2l, 1) := by decide +kernel
theorem dL_free_9 : decode cL_free 9 = .ok (.lastore, 1) := by decide +kernel
theorem dL_free_10 : decode cL_free 10 = .ok (.goto 7, 3) := by decide +kernel
theorem dL_free_13 : decode cL_free 13 = .ok (.astore 4, 2) := by decide +kernel
theorem dL_free_15 : decode cL_free 15 = .ok (.iconst 1, 1) := by decide +kernel
theorem dL_free_16 : decode cL_free 16 = .ok (.ireturn, 1) := by decide +kernel
theorem dL_free_17 : decode cL_free 17 = .ok (.iconst 0, 1) := by decide +kernel
theorem dL_free_18 : decode cL_free 18 = .ok (.ireturn, 1) := by decide +kernel
theorem dL_count_0 : decode cL_count 0 = .ok (.aload_n 2, 1) := by decide +kernel
theorem dL_count_1 : decode cL_count 1 = .ok (.iconst 0, 1) := by decide +kernel
theorem dL_count_2 : decode cL_count 2 = .ok (.aload_n 0, 1) := by decide +kernel
theorem dL_count_3 : decode cL_count 3 = .ok (.iload_n 1, 1) := by decide +kernel
theorem dL_count_4 : decode cL_count 4 = .ok (.invokevirtual 33, 3) := by decide +kernel
theorem dL_count_7 : decode cL_count 7 = .ok (.i2l, 1) := by decide +kernel
theorem dL_count_8 : decode cL_count 8 = .ok (.lastore, 1) := by decide +kernel
theorem dL_count_9 : decode cL_count 9 = .ok (.goto 6, 3) := by decide +kernel
theorem dL_count_12 : decode cL_count 12 = .ok (.astore_n 3, 1) := by decide +kernel
theorem dL_count_13 : decode cL_count 13 = .ok (.iconst 1, 1) := by decide +kernel
theorem dL_count_14 : decode cL_count 14 = .ok (.ireturn, 1) := by decide +kernel
theorem dL_count_15 : decode cL_count 15 = .ok (.iconst 0, 1) := by decide +kernel
theorem dL_count_16 : decode cL_count 16 = .ok (.ireturn, 1) := by decide +kernel
theorem dL_law_0 : decode cL_law 0 = .ok (.new 8, 3) := by decide +kernel
theorem dL_law_3 : decode cL_law 3 = .ok (.dup, 1) := by decide +kernel
theorem dL_law_4 : decode cL_law 4 = .ok (.invokespecial 36, 3) := by decide +kernel
theorem dL_law_7 : decode cL_law 7 = .ok (.astore_n 1, 1) := by decide +kernel
theorem dL_law_8 : decode cL_law 8 = .ok (.new 37, 3) := by decide +kernel
theorem dL_law_11 : decode cL_law 11 = .ok (.dup, 1) := by decide +kernel
theorem dL_law_12 : decode cL_law 12 = .ok (.invokespecial 39, 3) := by decide +kernel
theorem dL_law_15 : decode cL_law 15 = .ok (.astore_n 2, 1) := by decide +kernel
theorem dL_law_16 : decode cL_law 16 = .ok (.iconst 1, 1) := by decide +kernel
theorem dL_law_17 : decode cL_law 17 = .ok (.newarray .long, 2) := by decide +kernel
theorem dL_law_19 : decode cL_law 19 = .ok (.astore_n 3, 1) := by decide +kernel
theorem dL_law_20 : decode cL_law 20 = .ok (.iconst 0, 1) := by decide +kernel
theorem dL_law_21 : decode cL_law 21 = .ok (.istore 4, 2) := by decide +kernel
theorem dL_law_23 : decode cL_law 23 = .ok (.iload 4, 2) := by decide +kernel
theorem dL_law_25 : decode cL_law 25 = .ok (.aload_n 0, 1) := by decide +kernel
theorem dL_law_26 : decode cL_law 26 = .ok (.arraylength, 1) := by decide +kernel
theorem dL_law_27 : decode cL_law 27 = .ok (.iconst 3, 1) := by decide +kernel
theorem dL_law_28 : decode cL_law 28 = .ok (.isub, 1) := by decide +kernel
theorem dL_law_29 : decode cL_law 29 = .ok (.if_icmp .gt 553, 3) := by decide +kernel
theorem dL_law_32 : decode cL_law 32 = .ok (.aload_n 0, 1) := by decide +kernel
theorem dL_law_33 : decode cL_law 33 = .ok (.iload 4, 2) := by decide +kernel
theorem dL_law_35 : decode cL_law 35 = .ok (.iaload, 1) := by decide +kernel
theorem dL_law_36 : decode cL_law 36 = .ok (.bipush 15, 2) := by decide +kernel
theorem dL_law_38 : decode cL_law 38 = .ok (.iand, 1) := by decide +kernel
theorem dL_law_39 : decode cL_law 39 = .ok (.tableswitch 537 0 10 #[57, 113, 169, 225, 281, 294, 350, 375, 400, 468, 524], 57) := by decide +kernel
theorem dL_law_96 : decode cL_law 96 = .ok (.aload_n 1, 1) := by decide +kernel
theorem dL_law_97 : decode cL_law 97 = .ok (.aload_n 0, 1) := by decide +kernel
theorem dL_law_98 : decode cL_law 98 = .ok (.iload 4, 2) := by decide +kernel
theorem dL_law_100 : decode cL_law 100 = .ok (.iconst 1, 1) := by decide +kernel
theorem dL_law_101 : decode cL_law 101 = .ok (.iadd, 1) := by decide +kernel
theorem dL_law_102 : decode cL_law 102 = .ok (.iaload, 1) := by decide +kernel
theorem dL_law_103 : decode cL_law 103 = .ok (.aload_n 3, 1) := by decide +kernel
theorem dL_law_104 : decode cL_law 104 = .ok (.invokestatic 40, 3) := by decide +kernel
theorem dL_law_107 : decode cL_law 107 = .ok (.istore 5, 2) := by decide +kernel
theorem dL_law_109 : decode cL_law 109 = .ok (.aload_n 2, 1) := by decide +kernel
theorem dL_law_110 : decode cL_law 110 = .ok (.aload_n 0, 1) := by decide +kernel
theorem dL_law_111 : decode cL_law 111 = .ok (.iload 4, 2) := by decide +kernel
theorem dL_law_113 : decode cL_law 113 = .ok (.iconst 1, 1) := by decide +kernel
theorem dL_law_114 : decode cL_law 114 = .ok (.iadd, 1) := by decide +kernel
theorem dL_law_115 : decode cL_law 115 = .ok (.iaload, 1) := by decide +kernel
theorem dL_law_116 : decode cL_law 116 = .ok (.invokevirtual 45, 3) := by decide +kernel
theorem dL_law_119 : decode cL_law 119 = .ok (.istore 6, 2) := by decide +kernel
theorem dL_law_121 : decode cL_law 121 = .ok (.aload_n 2, 1) := by decide +kernel
theorem dL_law_122 : decode cL_law 122 = .ok (.invokevirtual 46, 3) := by decide +kernel
theorem dL_law_125 : decode cL_law 125 = .ok (.iload 5, 2) := by decide +kernel
theorem dL_law_127 : decode cL_law 127 = .ok (.if_icmp .eq 5, 3) := by decide +kernel
theorem dL_law_130 : decode cL_law 130 = .ok (.iconst 0, 1) := by decide +kernel
theorem dL_law_131 : decode cL_law 131 = .ok (.ireturn, 1) := by decide +kernel
theorem dL_law_132 : decode cL_law 132 = .ok (.iload 5, 2) := by decide +kernel
theorem dL_law_134 : decode cL_law 134 = .ok (.ifCond .ne 15, 3) := by decide +kernel
theorem dL_law_137 : decode cL_law 137 = .ok (.aload_n 3, 1) := by decide +kernel
theorem dL_law_138 : decode cL_law 138 = .ok (.iconst 0, 1) := by decide +kernel
theorem dL_law_139 : decode cL_law 139 = .ok (.laload, 1) := by decide +kernel
theorem dL_law_140 : decode cL_law 140 = .ok (.iload 6, 2) := by decide +kernel
theorem dL_law_142 : decode cL_law 142 = .ok (.i2l, 1) := by decide +kernel
theorem dL_law_143 : decode cL_law 143 = .ok (.lcmp, 1) := by decide +kernel
theorem dL_law_144 : decode cL_law 144 = .ok (.ifCond .eq 5, 3) := by decide +kernel
theorem dL_law_147 : decode cL_law 147 = .ok (.iconst 0, 1) := by decide +kernel
theorem dL_law_148 : decode cL_law 148 = .ok (.ireturn, 1) := by decide +kernel
theorem dL_law_149 : decode cL_law 149 = .ok (.goto 427, 3) := by decide +kernel
theorem dL_law_152 : decode cL_law 152 = .ok (.aload_n 1, 1) := by decide +kernel
theorem dL_law_153 : decode cL_law 153 = .ok (.aload_n 0, 1) := by decide +kernel
theorem dL_law_154 : decode cL_law 154 = .ok (.iload 4, 2) := by decide +kernel
theorem dL_law_156 : decode cL_law 156 = .ok (.iconst 1, 1) := by decide +kernel
theorem dL_law_157 : decode cL_law 157 = .ok (.iadd, 1) := by decide +kernel
theorem dL_law_158 : decode cL_law 158 = .ok (.iaload, 1) := by decide +kernel
theorem dL_law_159 : decode cL_law 159 = .ok (.aload_n 3, 1) := by decide +kernel
theorem dL_law_160 : decode cL_law 160 = .ok (.invokestatic 50, 3) := by decide +kernel
theorem dL_law_163 : decode cL_law 163 = .ok (.istore 5, 2) := by decide +kernel
theorem dL_law_165 : decode cL_law 165 = .ok (.aload_n 2, 1) := by decide +kernel
theorem dL_law_166 : decode cL_law 166 = .ok (.aload_n 0, 1) := by decide +kernel
theorem dL_law_167 : decode cL_law 167 = .ok (.iload 4, 2) := by decide +kernel
theorem dL_law_169 : decode cL_law 169 = .ok (.iconst 1, 1) := by decide +kernel
theorem dL_law_170 : decode cL_law 170 = .ok (.iadd, 1) := by decide +kernel
theorem dL_law_171 : decode cL_law 171 = .ok (.iaload, 1) := by decide +kernel
theorem dL_law_172 : decode cL_law 172 = .ok (.invokevirtual 52, 3) := by decide +kernel
theorem dL_law_175 : decode cL_law 175 = .ok (.istore 6, 2) := by decide +kernel
theorem dL_law_177 : decode cL_law 177 = .ok (.aload_n 2, 1) := by decide +kernel
theorem dL_law_178 : decode cL_law 178 = .ok (.invokevirtual 46, 3) := by decide +kernel
theorem dL_law_181 : decode cL_law 181 = .ok (.iload 5, 2) := by decide +kernel
theorem dL_law_183 : decode cL_law 183 = .ok (.if_icmp .eq 5, 3) := by decide +kernel
theorem dL_law_186 : decode cL_law 186 = .ok (.iconst 0, 1) := by decide +kernel
theorem dL_law_187 : decode cL_law 187 = .ok (.ireturn, 1) := by decide +kernel
theorem dL_law_188 : decode cL_law 188 = .ok (.iload 5, 2) := by decide +kernel
theorem dL_law_190 : decode cL_law 190 = .ok (.ifCond .ne 15, 3) := by decide +kernel
theorem dL_law_193 : decode cL_law 193 = .ok (.aload_n 3, 1) := by decide +kernel
theorem dL_law_194 : decode cL_law 194 = .ok (.iconst 0, 1) := by decide +kernel
theorem dL_law_195 : decode cL_law 195 = .ok (.laload, 1) := by decide +kernel
theorem dL_law_196 : decode cL_law 196 = .ok (.iload 6, 2) := by decide +kernel
theorem dL_law_198 : decode cL_law 198 = .ok (.i2l, 1) := by decide +kernel
theorem dL_law_199 : decode cL_law 199 = .ok (.lcmp, 1) := by decide +kernel
theorem dL_law_200 : decode cL_law 200 = .ok (.ifCond .eq 5, 3) := by decide +kernel
theorem dL_law_203 : decode cL_law 203 = .ok (.iconst 0, 1) := by decide +kernel
theorem dL_law_204 : decode cL_law 204 = .ok (.ireturn, 1) := by decide +kernel
theorem dL_law_205 : decode cL_law 205 = .ok (.goto 371, 3) := by decide +kernel
theorem dL_law_208 : decode cL_law 208 = .ok (.aload_n 1, 1) := by decide +kernel
theorem dL_law_209 : decode cL_law 209 = .ok (.aload_n 0, 1) := by decide +kernel
theorem dL_law_210 : decode cL_law 210 = .ok (.iload 4, 2) := by decide +kernel
theorem dL_law_212 : decode cL_law 212 = .ok (.iconst 1, 1) := by decide +kernel
theorem dL_law_213 : decode cL_law 213 = .ok (.iadd, 1) := by decide +kernel
theorem dL_law_214 : decode cL_law 214 = .ok (.iaload, 1) := by decide +kernel
theorem dL_law_215 : decode cL_law 215 = .ok (.aload_n 3, 1) := by decide +kernel
theorem dL_law_216 : decode cL_law 216 = .ok (.invokestatic 53, 3) := by decide +kernel
theorem dL_law_219 : decode cL_law 219 = .ok (.istore 5, 2) := by decide +kernel
theorem dL_law_221 : decode cL_law 221 = .ok (.aload_n 2, 1) := by decide +kernel
theorem dL_law_222 : decode cL_law 222 = .ok (.aload_n 0, 1) := by decide +kernel
theorem dL_law_223 : decode cL_law 223 = .ok (.iload 4, 2) := by decide +kernel
theorem dL_law_225 : decode cL_law 225 = .ok (.iconst 1, 1) := by decide +kernel
theorem dL_law_226 : decode cL_law 226 = .ok (.iadd, 1) := by decide +kernel
theorem dL_law_227 : decode cL_law 227 = .ok (.iaload, 1) := by decide +kernel
theorem dL_law_228 : decode cL_law 228 = .ok (.invokevirtual 55, 3) := by decide +kernel
theorem dL_law_231 : decode cL_law 231 = .ok (.istore 6, 2) := by decide +kernel
theorem dL_law_233 : decode cL_law 233 = .ok (.aload_n 2, 1) := by decide +kernel
theorem dL_law_234 : decode cL_law 234 = .ok (.invokevirtual 46, 3) := by decide +kernel
theorem dL_law_237 : decode cL_law 237 = .ok (.iload 5, 2) := by decide +kernel
theorem dL_law_239 : decode cL_law 239 = .ok (.if_icmp .eq 5, 3) := by decide +kernel
theorem dL_law_242 : decode cL_law 242 = .ok (.iconst 0, 1) := by decide +kernel
theorem dL_law_243 : decode cL_law 243 = .ok (.ireturn, 1) := by decide +kernel
theorem dL_law_244 : decode cL_law 244 = .ok (.iload 5, 2) := by decide +kernel
theorem dL_law_246 : decode cL_law 246 = .ok (.ifCond .ne 15, 3) := by decide +kernel
theorem dL_law_249 : decode cL_law 249 = .ok (.aload_n 3, 1) := by decide +kernel
theorem dL_law_250 : decode cL_law 250 = .ok (.iconst 0, 1) := by decide +kernel
theorem dL_law_251 : decode cL_law 251 = .ok (.laload, 1) := by decide +kernel
theorem dL_law_252 : decode cL_law 252 = .ok (.iload 6, 2) := by decide +kernel
theorem dL_law_254 : decode cL_law 254 = .ok (.i2l, 1) := by decide +kernel
theorem dL_law_255 : decode cL_law 255 = .ok (.lcmp, 1) := by decide +kernel
theorem dL_law_256 : decode cL_law 256 = .ok (.ifCond .eq 5, 3) := by decide +kernel
theorem dL_law_259 : decode cL_law 259 = .ok (.iconst 0, 1) := by decide +kernel
theorem dL_law_260 : decode cL_law 260 = .ok (.ireturn, 1) := by decide +kernel
theorem dL_law_261 : decode cL_law 261 = .ok (.goto 315, 3) := by decide +kernel
theorem dL_law_264 : decode cL_law 264 = .ok (.aload_n 1, 1) := by decide +kernel
theorem dL_law_265 : decode cL_law 265 = .ok (.aload_n 0, 1) := by decide +kernel
theorem dL_law_266 : decode cL_law 266 = .ok (.iload 4, 2) := by decide +kernel
theorem dL_law_268 : decode cL_law 268 = .ok (.iconst 1, 1) := by decide +kernel
theorem dL_law_269 : decode cL_law 269 = .ok (.iadd, 1) := by decide +kernel
theorem dL_law_270 : decode cL_law 270 = .ok (.iaload, 1) := by decide +kernel
theorem dL_law_271 : decode cL_law 271 = .ok (.aload_n 3, 1) := by decide +kernel
theorem dL_law_272 : decode cL_law 272 = .ok (.invokestatic 56, 3) := by decide +kernel
theorem dL_law_275 : decode cL_law 275 = .ok (.istore 5, 2) := by decide +kernel
theorem dL_law_277 : decode cL_law 277 = .ok (.aload_n 2, 1) := by decide +kernel
theorem dL_law_278 : decode cL_law 278 = .ok (.aload_n 0, 1) := by decide +kernel
theorem dL_law_279 : decode cL_law 279 = .ok (.iload 4, 2) := by decide +kernel
theorem dL_law_281 : decode cL_law 281 = .ok (.iconst 1, 1) := by decide +kernel
theorem dL_law_282 : decode cL_law 282 = .ok (.iadd, 1) := by decide +kernel
theorem dL_law_283 : decode cL_law 283 = .ok (.iaload, 1) := by decide +kernel
theorem dL_law_284 : decode cL_law 284 = .ok (.invokevirtual 58, 3) := by decide +kernel
theorem dL_law_287 : decode cL_law 287 = .ok (.istore 6, 2) := by decide +kernel
theorem dL_law_289 : decode cL_law 289 = .ok (.aload_n 2, 1) := by decide +kernel
theorem dL_law_290 : decode cL_law 290 = .ok (.invokevirtual 46, 3) := by decide +kernel
theorem dL_law_293 : decode cL_law 293 = .ok (.iload 5, 2) := by decide +kernel
theorem dL_law_295 : decode cL_law 295 = .ok (.if_icmp .eq 5, 3) := by decide +kernel
theorem dL_law_298 : decode cL_law 298 = .ok (.iconst 0, 1) := by decide +kernel
theorem dL_law_299 : decode cL_law 299 = .ok (.ireturn, 1) := by decide +kernel
theorem dL_law_300 : decode cL_law 300 = .ok (.iload 5, 2) := by decide +kernel
theorem dL_law_302 : decode cL_law 302 = .ok (.ifCond .ne 15, 3) := by decide +kernel
theorem dL_law_305 : decode cL_law 305 = .ok (.aload_n 3, 1) := by decide +kernel
theorem dL_law_306 : decode cL_law 306 = .ok (.iconst 0, 1) := by decide +kernel
theorem dL_law_307 : decode cL_law 307 = .ok (.laload, 1) := by decide +kernel
theorem dL_law_308 : decode cL_law 308 = .ok (.iload 6, 2) := by decide +kernel
theorem dL_law_310 : decode cL_law 310 = .ok (.i2l, 1) := by decide +kernel
theorem dL_law_311 : decode cL_law 311 = .ok (.lcmp, 1) := by decide +kernel
theorem dL_law_312 : decode cL_law 312 = .ok (.ifCond .eq 5, 3) := by decide +kernel
theorem dL_law_315 : decode cL_law 315 = .ok (.iconst 0, 1) := by decide +kernel
theorem dL_law_316 : decode cL_law 316 = .ok (.ireturn, 1) := by decide +kernel
theorem dL_law_317 : decode cL_law 317 = .ok (.goto 259, 3) := by decide +kernel
theorem dL_law_320 : decode cL_law 320 = .ok (.aload_n 1, 1) := by decide +kernel
theorem dL_law_321 : decode cL_law 321 = .ok (.invokevirtual 59, 3) := by decide +kernel
theorem dL_law_324 : decode cL_law 324 = .ok (.aload_n 2, 1) := by decide +kernel
theorem dL_law_325 : decode cL_law 325 = .ok (.invokevirtual 62, 3) := by decide +kernel
theorem dL_law_328 : decode cL_law 328 = .ok (.if_icmp .eq 248, 3) := by decide +kernel
theorem dL_law_331 : decode cL_law 331 = .ok (.iconst 0, 1) := by decide +kernel
theorem dL_law_332 : decode cL_law 332 = .ok (.ireturn, 1) := by decide +kernel
theorem dL_law_333 : decode cL_law 333 = .ok (.aload_n 1, 1) := by decide +kernel
theorem dL_law_334 : decode cL_law 334 = .ok (.aload_n 0, 1) := by decide +kernel
theorem dL_law_335 : decode cL_law 335 = .ok (.iload 4, 2) := by decide +kernel
theorem dL_law_337 : decode cL_law 337 = .ok (.iconst 1, 1) := by decide +kernel
theorem dL_law_338 : decode cL_law 338 = .ok (.iadd, 1) := by decide +kernel
theorem dL_law_339 : decode cL_law 339 = .ok (.iaload, 1) := by decide +kernel
theorem dL_law_340 : decode cL_law 340 = .ok (.aload_n 3, 1) := by decide +kernel
theorem dL_law_341 : decode cL_law 341 = .ok (.invokestatic 63, 3) := by decide +kernel
theorem dL_law_344 : decode cL_law 344 = .ok (.istore 5, 2) := by decide +kernel
theorem dL_law_346 : decode cL_law 346 = .ok (.aload_n 2, 1) := by decide +kernel
theorem dL_law_347 : decode cL_law 347 = .ok (.aload_n 0, 1) := by decide +kernel
theorem dL_law_348 : decode cL_law 348 = .ok (.iload 4, 2) := by decide +kernel
theorem dL_law_350 : decode cL_law 350 = .ok (.iconst 1, 1) := by decide +kernel
theorem dL_law_351 : decode cL_law 351 = .ok (.iadd, 1) := by decide +kernel
theorem dL_law_352 : decode cL_law 352 = .ok (.iaload, 1) := by decide +kernel
theorem dL_law_353 : decode cL_law 353 = .ok (.invokevirtual 65, 3) := by decide +kernel
theorem dL_law_356 : decode cL_law 356 = .ok (.istore 6, 2) := by decide +kernel
theorem dL_law_358 : decode cL_law 358 = .ok (.aload_n 2, 1) := by decide +kernel
theorem dL_law_359 : decode cL_law 359 = .ok (.invokevirtual 46, 3) := by decide +kernel
theorem dL_law_362 : decode cL_law 362 = .ok (.iload 5, 2) := by decide +kernel
theorem dL_law_364 : decode cL_law 364 = .ok (.if_icmp .eq 5, 3) := by decide +kernel
theorem dL_law_367 : decode cL_law 367 = .ok (.iconst 0, 1) := by decide +kernel
theorem dL_law_368 : decode cL_law 368 = .ok (.ireturn, 1) := by decide +kernel
theorem dL_law_369 : decode cL_law 369 = .ok (.iload 5, 2) := by decide +kernel
theorem dL_law_371 : decode cL_law 371 = .ok (.ifCond .ne 15, 3) := by decide +kernel
theorem dL_law_374 : decode cL_law 374 = .ok (.aload_n 3, 1) := by decide +kernel
theorem dL_law_375 : decode cL_law 375 = .ok (.iconst 0, 1) := by decide +kernel
theorem dL_law_376 : decode cL_law 376 = .ok (.laload, 1) := by decide +kernel
theorem dL_law_377 : decode cL_law 377 = .ok (.iload 6, 2) := by decide +kernel
theorem dL_law_379 : decode cL_law 379 = .ok (.i2l, 1) := by decide +kernel
theorem dL_law_380 : decode cL_law 380 = .ok (.lcmp, 1) := by decide +kernel
theorem dL_law_381 : decode cL_law 381 = .ok (.ifCond .eq 5, 3) := by decide +kernel
theorem dL_law_384 : decode cL_law 384 = .ok (.iconst 0, 1) := by decide +kernel
theorem dL_law_385 : decode cL_law 385 = .ok (.ireturn, 1) := by decide +kernel
theorem dL_law_386 : decode cL_law 386 = .ok (.goto 190, 3) := by decide +kernel
theorem dL_law_389 : decode cL_law 389 = .ok (.aload_n 1, 1) := by decide +kernel
theorem dL_law_390 : decode cL_law 390 = .ok (.aload_n 0, 1) := by decide +kernel
theorem dL_law_391 : decode cL_law 391 = .ok (.iload 4, 2) := by decide +kernel
theorem dL_law_393 : decode cL_law 393 = .ok (.iconst 1, 1) := by decide +kernel
theorem dL_law_394 : decode cL_law 394 = .ok (.iadd, 1) := by decide +kernel
theorem dL_law_395 : decode cL_law 395 = .ok (.iaload, 1) := by decide +kernel
theorem dL_law_396 : decode cL_law 396 = .ok (.invokevirtual 66, 3) := by decide +kernel
theorem dL_law_399 : decode cL_law 399 = .ok (.aload_n 2, 1) := by decide +kernel
theorem dL_law_400 : decode cL_law 400 = .ok (.aload_n 0, 1) := by decide +kernel
theorem dL_law_401 : decode cL_law 401 = .ok (.iload 4, 2) := by decide +kernel
theorem dL_law_403 : decode cL_law 403 = .ok (.iconst 1, 1) := by decide +kernel
theorem dL_law_404 : decode cL_law 404 = .ok (.iadd, 1) := by decide +kernel
theorem dL_law_405 : decode cL_law 405 = .ok (.iaload, 1) := by decide +kernel
theorem dL_law_406 : decode cL_law 406 = .ok (.invokevirtual 69, 3) := by decide +kernel
theorem dL_law_409 : decode cL_law 409 = .ok (.if_icmp .eq 167, 3) := by decide +kernel
theorem dL_law_412 : decode cL_law 412 = .ok (.iconst 0, 1) := by decide +kernel
theorem dL_law_413 : decode cL_law 413 = .ok (.ireturn, 1) := by decide +kernel
theorem dL_law_414 : decode cL_law 414 = .ok (.aload_n 1, 1) := by decide +kernel
theorem dL_law_415 : decode cL_law 415 = .ok (.aload_n 0, 1) := by decide +kernel
theorem dL_law_416 : decode cL_law 416 = .ok (.iload 4, 2) := by decide +kernel
theorem dL_law_418 : decode cL_law 418 = .ok (.iconst 1, 1) := by decide +kernel
theorem dL_law_419 : decode cL_law 419 = .ok (.iadd, 1) := by decide +kernel
theorem dL_law_420 : decode cL_law 420 = .ok (.iaload, 1) := by decide +kernel
theorem dL_law_421 : decode cL_law 421 = .ok (.invokevirtual 70, 3) := by decide +kernel
theorem dL_law_424 : decode cL_law 424 = .ok (.aload_n 2, 1) := by decide +kernel
theorem dL_law_425 : decode cL_law 425 = .ok (.aload_n 0, 1) := by decide +kernel
theorem dL_law_426 : decode cL_law 426 = .ok (.iload 4, 2) := by decide +kernel
theorem dL_law_428 : decode cL_law 428 = .ok (.iconst 1, 1) := by decide +kernel
theorem dL_law_429 : decode cL_law 429 = .ok (.iadd, 1) := by decide +kernel
theorem dL_law_430 : decode cL_law 430 = .ok (.iaload, 1) := by decide +kernel
theorem dL_law_431 : decode cL_law 431 = .ok (.invokevirtual 73, 3) := by decide +kernel
theorem dL_law_434 : decode cL_law 434 = .ok (.if_icmp .eq 142, 3) := by decide +kernel
theorem dL_law_437 : decode cL_law 437 = .ok (.iconst 0, 1) := by decide +kernel
theorem dL_law_438 : decode cL_law 438 = .ok (.ireturn, 1) := by decide +kernel
theorem dL_law_439 : decode cL_law 439 = .ok (.aload_n 1, 1) := by decide +kernel
theorem dL_law_440 : decode cL_law 440 = .ok (.aload_n 0, 1) := by decide +kernel
theorem dL_law_441 : decode cL_law 441 = .ok (.iload 4, 2) := by decide +kernel
theorem dL_law_443 : decode cL_law 443 = .ok (.iconst 1, 1) := by decide +kernel
theorem dL_law_444 : decode cL_law 444 = .ok (.iadd, 1) := by decide +kernel
theorem dL_law_445 : decode cL_law 445 = .ok (.iaload, 1) := by decide +kernel
theorem dL_law_446 : decode cL_law 446 = .ok (.aload_n 0, 1) := by decide +kernel
theorem dL_law_447 : decode cL_law 447 = .ok (.iload 4, 2) := by decide +kernel
theorem dL_law_449 : decode cL_law 449 = .ok (.iconst 2, 1) := by decide +kernel
theorem dL_law_450 : decode cL_law 450 = .ok (.iadd, 1) := by decide +kernel
theorem dL_law_451 : decode cL_law 451 = .ok (.iaload, 1) := by decide +kernel
theorem dL_law_452 : decode cL_law 452 = .ok (.aload_n 3, 1) := by decide +kernel
theorem dL_law_453 : decode cL_law 453 = .ok (.invokestatic 74, 3) := by decide +kernel
theorem dL_law_456 : decode cL_law 456 = .ok (.istore 5, 2) := by decide +kernel
theorem dL_law_458 : decode cL_law 458 = .ok (.aload_n 2, 1) := by decide +kernel
theorem dL_law_459 : decode cL_law 459 = .ok (.aload_n 0, 1) := by decide +kernel
theorem dL_law_460 : decode cL_law 460 = .ok (.iload 4, 2) := by decide +kernel
theorem dL_law_462 : decode cL_law 462 = .ok (.iconst 1, 1) := by decide +kernel
theorem dL_law_463 : decode cL_law 463 = .ok (.iadd, 1) := by decide +kernel
theorem dL_law_464 : decode cL_law 464 = .ok (.iaload, 1) := by decide +kernel
theorem dL_law_465 : decode cL_law 465 = .ok (.aload_n 0, 1) := by decide +kernel
theorem dL_law_466 : decode cL_law 466 = .ok (.iload 4, 2) := by decide +kernel
theorem dL_law_468 : decode cL_law 468 = .ok (.iconst 2, 1) := by decide +kernel
theorem dL_law_469 : decode cL_law 469 = .ok (.iadd, 1) := by decide +kernel
theorem dL_law_470 : decode cL_law 470 = .ok (.iaload, 1) := by decide +kernel
theorem dL_law_471 : decode cL_law 471 = .ok (.invokevirtual 77, 3) := by decide +kernel
theorem dL_law_474 : decode cL_law 474 = .ok (.istore 6, 2) := by decide +kernel
theorem dL_law_476 : decode cL_law 476 = .ok (.aload_n 2, 1) := by decide +kernel
theorem dL_law_477 : decode cL_law 477 = .ok (.invokevirtual 46, 3) := by decide +kernel
theorem dL_law_480 : decode cL_law 480 = .ok (.iload 5, 2) := by decide +kernel
theorem dL_law_482 : decode cL_law 482 = .ok (.if_icmp .eq 5, 3) := by decide +kernel
theorem dL_law_485 : decode cL_law 485 = .ok (.iconst 0, 1) := by decide +kernel
theorem dL_law_486 : decode cL_law 486 = .ok (.ireturn, 1) := by decide +kernel
theorem dL_law_487 : decode cL_law 487 = .ok (.iload 5, 2) := by decide +kernel
theorem dL_law_489 : decode cL_law 489 = .ok (.ifCond .ne 15, 3) := by decide +kernel
theorem dL_law_492 : decode cL_law 492 = .ok (.aload_n 3, 1) := by decide +kernel
theorem dL_law_493 : decode cL_law 493 = .ok (.iconst 0, 1) := by decide +kernel
theorem dL_law_494 : decode cL_law 494 = .ok (.laload, 1) := by decide +kernel
theorem dL_law_495 : decode cL_law 495 = .ok (.iload 6, 2) := by decide +kernel
theorem dL_law_497 : decode cL_law 497 = .ok (.i2l, 1) := by decide +kernel
theorem dL_law_498 : decode cL_law 498 = .ok (.lcmp, 1) := by decide +kernel
theorem dL_law_499 : decode cL_law 499 = .ok (.ifCond .eq 5, 3) := by decide +kernel
theorem dL_law_502 : decode cL_law 502 = .ok (.iconst 0, 1) := by decide +kernel
theorem dL_law_503 : decode cL_law 503 = .ok (.ireturn, 1) := by decide +kernel
theorem dL_law_504 : decode cL_law 504 = .ok (.goto 72, 3) := by decide +kernel
theorem dL_law_507 : decode cL_law 507 = .ok (.aload_n 1, 1) := by decide +kernel
theorem dL_law_508 : decode cL_law 508 = .ok (.aload_n 0, 1) := by decide +kernel
theorem dL_law_509 : decode cL_law 509 = .ok (.iload 4, 2) := by decide +kernel
theorem dL_law_511 : decode cL_law 511 = .ok (.iconst 1, 1) := by decide +kernel
theorem dL_law_512 : decode cL_law 512 = .ok (.iadd, 1) := by decide +kernel
theorem dL_law_513 : decode cL_law 513 = .ok (.iaload, 1) := by decide +kernel
theorem dL_law_514 : decode cL_law 514 = .ok (.aload_n 3, 1) := by decide +kernel
theorem dL_law_515 : decode cL_law 515 = .ok (.invokestatic 78, 3) := by decide +kernel
theorem dL_law_518 : decode cL_law 518 = .ok (.istore 5, 2) := by decide +kernel
theorem dL_law_520 : decode cL_law 520 = .ok (.aload_n 2, 1) := by decide +kernel
theorem dL_law_521 : decode cL_law 521 = .ok (.aload_n 0, 1) := by decide +kernel
theorem dL_law_522 : decode cL_law 522 = .ok (.iload 4, 2) := by decide +kernel
theorem dL_law_524 : decode cL_law 524 = .ok (.iconst 1, 1) := by decide +kernel
theorem dL_law_525 : decode cL_law 525 = .ok (.iadd, 1) := by decide +kernel
theorem dL_law_526 : decode cL_law 526 = .ok (.iaload, 1) := by decide +kernel
theorem dL_law_527 : decode cL_law 527 = .ok (.invokevirtual 80, 3) := by decide +kernel
theorem dL_law_530 : decode cL_law 530 = .ok (.istore 6, 2) := by decide +kernel
theorem dL_law_532 : decode cL_law 532 = .ok (.aload_n 2, 1) := by decide +kernel
theorem dL_law_533 : decode cL_law 533 = .ok (.invokevirtual 46, 3) := by decide +kernel
theorem dL_law_536 : decode cL_law 536 = .ok (.iload 5, 2) := by decide +kernel
theorem dL_law_538 : decode cL_law 538 = .ok (.if_icmp .eq 5, 3) := by decide +kernel
theorem dL_law_541 : decode cL_law 541 = .ok (.iconst 0, 1) := by decide +kernel
theorem dL_law_542 : decode cL_law 542 = .ok (.ireturn, 1) := by decide +kernel
theorem dL_law_543 : decode cL_law 543 = .ok (.iload 5, 2) := by decide +kernel
theorem dL_law_545 : decode cL_law 545 = .ok (.ifCond .ne 15, 3) := by decide +kernel
theorem dL_law_548 : decode cL_law 548 = .ok (.aload_n 3, 1) := by decide +kernel
theorem dL_law_549 : decode cL_law 549 = .ok (.iconst 0, 1) := by decide +kernel
theorem dL_law_550 : decode cL_law 550 = .ok (.laload, 1) := by decide +kernel
theorem dL_law_551 : decode cL_law 551 = .ok (.iload 6, 2) := by decide +kernel
theorem dL_law_553 : decode cL_law 553 = .ok (.i2l, 1) := by decide +kernel
theorem dL_law_554 : decode cL_law 554 = .ok (.lcmp, 1) := by decide +kernel
theorem dL_law_555 : decode cL_law 555 = .ok (.ifCond .eq 5, 3) := by decide +kernel
theorem dL_law_558 : decode cL_law 558 = .ok (.iconst 0, 1) := by decide +kernel
theorem dL_law_559 : decode cL_law 559 = .ok (.ireturn, 1) := by decide +kernel
theorem dL_law_560 : decode cL_law 560 = .ok (.goto 16, 3) := by decide +kernel
theorem dL_law_563 : decode cL_law 563 = .ok (.aload_n 1, 1) := by decide +kernel
theorem dL_law_564 : decode cL_law 564 = .ok (.invokevirtual 81, 3) := by decide +kernel
theorem dL_law_567 : decode cL_law 567 = .ok (.aload_n 2, 1) := by decide +kernel
theorem dL_law_568 : decode cL_law 568 = .ok (.invokevirtual 84, 3) := by decide +kernel
theorem dL_law_571 : decode cL_law 571 = .ok (.if_icmp .eq 5, 3) := by decide +kernel
theorem dL_law_574 : decode cL_law 574 = .ok (.iconst 0, 1) := by decide +kernel
theorem dL_law_575 : decode cL_law 575 = .ok (.ireturn, 1) := by decide +kernel
theorem dL_law_576 : decode cL_law 576 = .ok (.iinc 4 3, 3) := by decide +kernel
theorem dL_law_579 : decode cL_law 579 = .ok (.goto (-556), 3) := by decide +kernel
theorem dL_law_582 : decode cL_law 582 = .ok (.iconst 1, 1) := by decide +kernel
theorem dL_law_583 : decode cL_law 583 = .ok (.ireturn, 1) := by decide +kernel
