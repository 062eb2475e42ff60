theorem d_N_init_18 : decode b_N_init 18 = .ok (.aload_n 0, 1) := by decide +kernel
theorem d_N_init_19 : decode b_N_init 19 = .ok (.sipush 200, 3) := by decide +kernel
theorem d_N_init_22 : decode b_N_init 22 = .ok (.newarray .int, 2) := by decide +kernel
theorem d_N_init_24 : decode b_N_init 24 = .ok (.putfield 19, 3) := by decide +kernel
theorem d_N_init_27 : decode b_N_init 27 = .ok (.aload_n 0, 1) := by decide +kernel
theorem d_N_init_28 : decode b_N_init 28 = .ok (.bipush 60, 2) := by decide +kernel
theorem d_N_init_30 : decode b_N_init 30 = .ok (.newarray .int, 2) := by decide +kernel
theorem d_N_init_32 : decode b_N_init 32 = .ok (.putfield 22, 3) := by decide +kernel
theorem d_N_init_35 : decode b_N_init 35 = .ok (.aload_n 0, 1) := by decide +kernel
theorem d_N_init_36 : decode b_N_init 36 = .ok (.bipush 60, 2) := by decide +kernel
theorem d_N_init_38 : decode b_N_init 38 = .ok (.newarray .int, 2) := by decide +kernel
theorem d_N_init_40 : decode b_N_init 40 = .ok (.putfield 25, 3) := by decide +kernel
theorem d_N_init_43 : decode b_N_init 43 = .ok (.aload_n 0, 1) := by decide +kernel
theorem d_N_init_44 : decode b_N_init 44 = .ok (.bipush 60, 2) := by decide +kernel
theorem d_N_init_46 : decode b_N_init 46 = .ok (.newarray .int, 2) := by decide +kernel
theorem d_N_init_48 : decode b_N_init 48 = .ok (.putfield 28, 3) := by decide +kernel
theorem d_N_init_51 : decode b_N_init 51 = .ok (.return_, 1) := by decide +kernel
theorem d_N_isFull_0 : decode b_N_isFull 0 = .ok (.aload_n 0, 1) := by decide +kernel
theorem d_N_isFull_1 : decode b_N_isFull 1 = .ok (.getfield 9, 3) := by decide +kernel
theorem d_N_isFull_4 : decode b_N_isFull 4 = .ok (.sipush 200, 3) := by decide +kernel
theorem d_N_isFull_7 : decode b_N_isFull 7 = .ok (.if_icmp .lt 7, 3) := by decide +kernel
theorem d_N_isFull_10 : decode b_N_isFull 10 = .ok (.iconst 1, 1) := by decide +kernel
theorem d_N_isFull_11 : decode b_N_isFull 11 = .ok (.goto 4, 3) := by decide +kernel
theorem d_N_isFull_14 : decode b_N_isFull 14 = .ok (.iconst 0, 1) := by decide +kernel
theorem d_N_isFull_15 : decode b_N_isFull 15 = .ok (.ireturn, 1) := by decide +kernel
theorem d_N_add_0 : decode b_N_add 0 = .ok (.aload_n 0, 1) := by decide +kernel
theorem d_N_add_1 : decode b_N_add 1 = .ok (.getfield 15, 3) := by decide +kernel
theorem d_N_add_4 : decode b_N_add 4 = .ok (.aload_n 0, 1) := by decide +kernel
theorem d_N_add_5 : decode b_N_add 5 = .ok (.getfield 9, 3) := by decide +kernel
theorem d_N_add_8 : decode b_N_add 8 = .ok (.iload_n 1, 1) := by decide +kernel
theorem d_N_add_9 : decode b_N_add 9 = .ok (.iastore, 1) := by decide +kernel
theorem d_N_add_10 : decode b_N_add 10 = .ok (.aload_n 0, 1) := by decide +kernel
theorem d_N_add_11 : decode b_N_add 11 = .ok (.getfield 19, 3) := by decide +kernel
theorem d_N_add_14 : decode b_N_add 14 = .ok (.aload_n 0, 1) := by decide +kernel
theorem d_N_add_15 : decode b_N_add 15 = .ok (.getfield 9, 3) := by decide +kernel
theorem d_N_add_18 : decode b_N_add 18 = .ok (.iload_n 2, 1) := by decide +kernel
theorem d_N_add_19 : decode b_N_add 19 = .ok (.iastore, 1) := by decide +kernel
theorem d_N_add_20 : decode b_N_add 20 = .ok (.aload_n 0, 1) := by decide +kernel
theorem d_N_add_21 : decode b_N_add 21 = .ok (.dup, 1) := by decide +kernel
theorem d_N_add_22 : decode b_N_add 22 = .ok (.getfield 9, 3) := by decide +kernel
theorem d_N_add_25 : decode b_N_add 25 = .ok (.iconst 1, 1) := by decide +kernel
theorem d_N_add_26 : decode b_N_add 26 = .ok (.iadd, 1) := by decide +kernel
theorem d_N_add_27 : decode b_N_add 27 = .ok (.putfield 9, 3) := by decide +kernel
theorem d_N_add_30 : decode b_N_add 30 = .ok (.aload_n 0, 1) := by decide +kernel
theorem d_N_add_31 : decode b_N_add 31 = .ok (.getfield 25, 3) := by decide +kernel
theorem d_N_add_34 : decode b_N_add 34 = .ok (.iload_n 1, 1) := by decide +kernel
theorem d_N_add_35 : decode b_N_add 35 = .ok (.dup2, 1) := by decide +kernel
theorem d_N_add_36 : decode b_N_add 36 = .ok (.iaload, 1) := by decide +kernel
theorem d_N_add_37 : decode b_N_add 37 = .ok (.iload_n 2, 1) := by decide +kernel
theorem d_N_add_38 : decode b_N_add 38 = .ok (.iadd, 1) := by decide +kernel
theorem d_N_add_39 : decode b_N_add 39 = .ok (.iastore, 1) := by decide +kernel
theorem d_N_add_40 : decode b_N_add 40 = .ok (.aload_n 0, 1) := by decide +kernel
theorem d_N_add_41 : decode b_N_add 41 = .ok (.getfield 28, 3) := by decide +kernel
theorem d_N_add_44 : decode b_N_add 44 = .ok (.iload_n 1, 1) := by decide +kernel
theorem d_N_add_45 : decode b_N_add 45 = .ok (.dup2, 1) := by decide +kernel
theorem d_N_add_46 : decode b_N_add 46 = .ok (.iaload, 1) := by decide +kernel
theorem d_N_add_47 : decode b_N_add 47 = .ok (.iload_n 3, 1) := by decide +kernel
theorem d_N_add_48 : decode b_N_add 48 = .ok (.iadd, 1) := by decide +kernel
theorem d_N_add_49 : decode b_N_add 49 = .ok (.iastore, 1) := by decide +kernel
theorem d_N_add_50 : decode b_N_add 50 = .ok (.aload_n 0, 1) := by decide +kernel
theorem d_N_add_51 : decode b_N_add 51 = .ok (.getfield 22, 3) := by decide +kernel
theorem d_N_add_54 : decode b_N_add 54 = .ok (.iload_n 1, 1) := by decide +kernel
theorem d_N_add_55 : decode b_N_add 55 = .ok (.dup2, 1) := by decide +kernel
theorem d_N_add_56 : decode b_N_add 56 = .ok (.iaload, 1) := by decide +kernel
theorem d_N_add_57 : decode b_N_add 57 = .ok (.iconst 1, 1) := by decide +kernel
theorem d_N_add_58 : decode b_N_add 58 = .ok (.iadd, 1) := by decide +kernel
theorem d_N_add_59 : decode b_N_add 59 = .ok (.iastore, 1) := by decide +kernel
theorem d_N_add_60 : decode b_N_add 60 = .ok (.aload_n 0, 1) := by decide +kernel
theorem d_N_add_61 : decode b_N_add 61 = .ok (.getfield 22, 3) := by decide +kernel
theorem d_N_add_64 : decode b_N_add 64 = .ok (.iload_n 1, 1) := by decide +kernel
theorem d_N_add_65 : decode b_N_add 65 = .ok (.iaload, 1) := by decide +kernel
theorem d_N_add_66 : decode b_N_add 66 = .ok (.iconst 1, 1) := by decide +kernel
theorem d_N_add_67 : decode b_N_add 67 = .ok (.isub, 1) := by decide +kernel
theorem d_N_add_68 : decode b_N_add 68 = .ok (.ireturn, 1) := by decide +kernel
theorem d_N_rowOf_0 : decode b_N_rowOf 0 = .ok (.iconst 0, 1) := by decide +kernel
theorem d_N_rowOf_1 : decode b_N_rowOf 1 = .ok (.istore_n 3, 1) := by decide +kernel
theorem d_N_rowOf_2 : decode b_N_rowOf 2 = .ok (.iconst 0, 1) := by decide +kernel
theorem d_N_rowOf_3 : decode b_N_rowOf 3 = .ok (.istore 4, 2) := by decide +kernel
theorem d_N_rowOf_5 : decode b_N_rowOf 5 = .ok (.iload 4, 2) := by decide +kernel
theorem d_N_rowOf_7 : decode b_N_rowOf 7 = .ok (.aload_n 0, 1) := by decide +kernel
theorem d_N_rowOf_8 : decode b_N_rowOf 8 = .ok (.getfield 9, 3) := by decide +kernel
theorem d_N_rowOf_11 : decode b_N_rowOf 11 = .ok (.if_icmp .ge 31, 3) := by decide +kernel
theorem d_N_rowOf_14 : decode b_N_rowOf 14 = .ok (.aload_n 0, 1) := by decide +kernel
theorem d_N_rowOf_15 : decode b_N_rowOf 15 = .ok (.getfield 15, 3) := by decide +kernel
theorem d_N_rowOf_18 : decode b_N_rowOf 18 = .ok (.iload 4, 2) := by decide +kernel
theorem d_N_rowOf_20 : decode b_N_rowOf 20 = .ok (.iaload, 1) := by decide +kernel
theorem d_N_rowOf_21 : decode b_N_rowOf 21 = .ok (.iload_n 1, 1) := by decide +kernel
theorem d_N_rowOf_22 : decode b_N_rowOf 22 = .ok (.if_icmp .ne 14, 3) := by decide +kernel
theorem d_N_rowOf_25 : decode b_N_rowOf 25 = .ok (.iload_n 3, 1) := by decide +kernel
theorem d_N_rowOf_26 : decode b_N_rowOf 26 = .ok (.iload_n 2, 1) := by decide +kernel
theorem d_N_rowOf_27 : decode b_N_rowOf 27 = .ok (.if_icmp .ne 6, 3) := by decide +kernel
theorem d_N_rowOf_30 : decode b_N_rowOf 30 = .ok (.iload 4, 2) := by decide +kernel
theorem d_N_rowOf_32 : decode b_N_rowOf 32 = .ok (.ireturn, 1) := by decide +kernel
theorem d_N_rowOf_33 : decode b_N_rowOf 33 = .ok (.iinc 3 1, 3) := by decide +kernel
theorem d_N_rowOf_36 : decode b_N_rowOf 36 = .ok (.iinc 4 1, 3) := by decide +kernel
theorem d_N_rowOf_39 : decode b_N_rowOf 39 = .ok (.goto (-34), 3) := by decide +kernel
theorem d_N_rowOf_42 : decode b_N_rowOf 42 = .ok (.iconst (-1), 1) := by decide +kernel
theorem d_N_rowOf_43 : decode b_N_rowOf 43 = .ok (.ireturn, 1) := by decide +kernel
theorem d_N_changeWeight_0 : decode b_N_changeWeight 0 = .ok (.iload_n 2, 1) := by decide +kernel
theorem d_N_changeWeight_1 : decode b_N_changeWeight 1 = .ok (.aload_n 0, 1) := by decide +kernel
theorem d_N_changeWeight_2 : decode b_N_changeWeight 2 = .ok (.getfield 19, 3) := by decide +kernel
theorem d_N_changeWeight_5 : decode b_N_changeWeight 5 = .ok (.iload_n 1, 1) := by decide +kernel
theorem d_N_changeWeight_6 : decode b_N_changeWeight 6 = .ok (.iaload, 1) := by decide +kernel
theorem d_N_changeWeight_7 : decode b_N_changeWeight 7 = .ok (.isub, 1) := by decide +kernel
theorem d_N_changeWeight_8 : decode b_N_changeWeight 8 = .ok (.istore_n 3, 1) := by decide +kernel
theorem d_N_changeWeight_9 : decode b_N_changeWeight 9 = .ok (.aload_n 0, 1) := by decide +kernel
theorem d_N_changeWeight_10 : decode b_N_changeWeight 10 = .ok (.getfield 19, 3) := by decide +kernel
theorem d_N_changeWeight_13 : decode b_N_changeWeight 13 = .ok (.iload_n 1, 1) := by decide +kernel
theorem d_N_changeWeight_14 : decode b_N_changeWeight 14 = .ok (.iload_n 2, 1) := by decide +kernel
theorem d_N_changeWeight_15 : decode b_N_changeWeight 15 = .ok (.iastore, 1) := by decide +kernel
theorem d_N_changeWeight_16 : decode b_N_changeWeight 16 = .ok (.aload_n 0, 1) := by decide +kernel
theorem d_N_changeWeight_17 : decode b_N_changeWeight 17 = .ok (.getfield 25, 3) := by decide +kernel
theorem d_N_changeWeight_20 : decode b_N_changeWeight 20 = .ok (.aload_n 0, 1) := by decide +kernel
theorem d_N_changeWeight_21 : decode b_N_changeWeight 21 = .ok (.getfield 15, 3) := by decide +kernel
theorem d_N_changeWeight_24 : decode b_N_changeWeight 24 = .ok (.iload_n 1, 1) := by decide +kernel
theorem d_N_changeWeight_25 : decode b_N_changeWeight 25 = .ok (.iaload, 1) := by decide +kernel
theorem d_N_changeWeight_26 : decode b_N_changeWeight 26 = .ok (.dup2, 1) := by decide +kernel
theorem d_N_changeWeight_27 : decode b_N_changeWeight 27 = .ok (.iaload, 1) := by decide +kernel
theorem d_N_changeWeight_28 : decode b_N_changeWeight 28 = .ok (.iload_n 3, 1) := by decide +kernel
theorem d_N_changeWeight_29 : decode b_N_changeWeight 29 = .ok (.iadd, 1) := by decide +kernel
theorem d_N_changeWeight_30 : decode b_N_changeWeight 30 = .ok (.iastore, 1) := by decide +kernel
theorem d_N_changeWeight_31 : decode b_N_changeWeight 31 = .ok (.iload_n 3, 1) := by decide +kernel
theorem d_N_changeWeight_32 : decode b_N_changeWeight 32 = .ok (.ireturn, 1) := by decide +kernel
theorem d_N_take_0 : decode b_N_take 0 = .ok (.iload_n 2, 1) := by decide +kernel
theorem d_N_take_1 : decode b_N_take 1 = .ok (.istore_n 3, 1) := by decide +kernel
theorem d_N_take_2 : decode b_N_take 2 = .ok (.aload_n 0, 1) := by decide +kernel
theorem d_N_take_3 : decode b_N_take 3 = .ok (.getfield 9, 3) := by decide +kernel
theorem d_N_take_6 : decode b_N_take 6 = .ok (.iconst 1, 1) := by decide +kernel
theorem d_N_take_7 : decode b_N_take 7 = .ok (.isub, 1) := by decide +kernel
theorem d_N_take_8 : decode b_N_take 8 = .ok (.istore 4, 2) := by decide +kernel
theorem d_N_take_10 : decode b_N_take 10 = .ok (.iload 4, 2) := by decide +kernel
theorem d_N_take_12 : decode b_N_take 12 = .ok (.ifCond .lt 59, 3) := by decide +kernel
theorem d_N_take_15 : decode b_N_take 15 = .ok (.iload_n 3, 1) := by decide +kernel
theorem d_N_take_16 : decode b_N_take 16 = .ok (.ifCond .le 55, 3) := by decide +kernel
theorem d_N_take_19 : decode b_N_take 19 = .ok (.aload_n 0, 1) := by decide +kernel
theorem d_N_take_20 : decode b_N_take 20 = .ok (.getfield 15, 3) := by decide +kernel
theorem d_N_take_23 : decode b_N_take 23 = .ok (.iload 4, 2) := by decide +kernel
theorem d_N_take_25 : decode b_N_take 25 = .ok (.iaload, 1) := by decide +kernel
theorem d_N_take_26 : decode b_N_take 26 = .ok (.iload_n 1, 1) := by decide +kernel
theorem d_N_take_27 : decode b_N_take 27 = .ok (.if_icmp .ne 38, 3) := by decide +kernel
theorem d_N_take_30 : decode b_N_take 30 = .ok (.iload_n 3, 1) := by decide +kernel
theorem d_N_take_31 : decode b_N_take 31 = .ok (.aload_n 0, 1) := by decide +kernel
theorem d_N_take_32 : decode b_N_take 32 = .ok (.getfield 19, 3) := by decide +kernel
theorem d_N_take_35 : decode b_N_take 35 = .ok (.iload 4, 2) := by decide +kernel
theorem d_N_take_37 : decode b_N_take 37 = .ok (.iaload, 1) := by decide +kernel
theorem d_N_take_38 : decode b_N_take 38 = .ok (.invokestatic 31, 3) := by decide +kernel
theorem d_N_take_41 : decode b_N_take 41 = .ok (.istore 5, 2) := by decide +kernel
theorem d_N_take_43 : decode b_N_take 43 = .ok (.aload_n 0, 1) := by decide +kernel
theorem d_N_take_44 : decode b_N_take 44 = .ok (.iload 4, 2) := by decide +kernel
theorem d_N_take_46 : decode b_N_take 46 = .ok (.aload_n 0, 1) := by decide +kernel
theorem d_N_take_47 : decode b_N_take 47 = .ok (.getfield 19, 3) := by decide +kernel
theorem d_N_take_50 : decode b_N_take 50 = .ok (.iload 4, 2) := by decide +kernel
theorem d_N_take_52 : decode b_N_take 52 = .ok (.iaload, 1) := by decide +kernel
theorem d_N_take_53 : decode b_N_take 53 = .ok (.iload 5, 2) := by decide +kernel
theorem d_N_take_55 : decode b_N_take 55 = .ok (.isub, 1) := by decide +kernel
theorem d_N_take_56 : decode b_N_take 56 = .ok (.invokevirtual 37, 3) := by decide +kernel
theorem d_N_take_59 : decode b_N_take 59 = .ok (.pop, 1) := by decide +kernel
theorem d_N_take_60 : decode b_N_take 60 = .ok (.iload_n 3, 1) := by decide +kernel
theorem d_N_take_61 : decode b_N_take 61 = .ok (.iload 5, 2) := by decide +kernel
theorem d_N_take_63 : decode b_N_take 63 = .ok (.isub, 1) := by decide +kernel
theorem d_N_take_64 : decode b_N_take 64 = .ok (.istore_n 3, 1) := by decide +kernel
theorem d_N_take_65 : decode b_N_take 65 = .ok (.iinc 4 (-1), 3) := by decide +kernel
theorem d_N_take_68 : decode b_N_take 68 = .ok (.goto (-58), 3) := by decide +kernel
theorem d_N_take_71 : decode b_N_take 71 = .ok (.return_, 1) := by decide +kernel
theorem d_X_init_0 : decode b_X_init 0 = .ok (.aload_n 0, 1) := by decide +kernel
theorem d_X_init_1 : decode b_X_init 1 = .ok (.invokespecial 3, 3) := by decide +kernel
theorem d_X_init_4 : decode b_X_init 4 = .ok (.aload_n 0, 1) := by decide +kernel
theorem d_X_init_5 : decode b_X_init 5 = .ok (.iconst 0, 1) := by decide +kernel
theorem d_X_init_6 : decode b_X_init 6 = .ok (.putfield 9, 3) := by decide +kernel
theorem d_X_init_9 : decode b_X_init 9 = .ok (.aload_n 0, 1) := by decide +kernel
theorem d_X_init_10 : decode b_X_init 10 = .ok (.bipush 60, 2) := by decide +kernel
theorem d_X_init_12 : decode b_X_init 12 = .ok (.newarray .int, 2) := by decide +kernel
theorem d_X_init_14 : decode b_X_init 14 = .ok (.putfield 15, 3) := by decide +kernel
theorem d_X_init_17 : decode b_X_init 17 = .ok (.aload_n 0, 1) := by decide +kernel
theorem d_X_init_18 : decode b_X_init 18 = .ok (.bipush 60, 2) := by decide +kernel
theorem d_X_init_20 : decode b_X_init 20 = .ok (.newarray .int, 2) := by decide +kernel
theorem d_X_init_22 : decode b_X_init 22 = .ok (.putfield 19, 3) := by decide +kernel
theorem d_X_init_25 : decode b_X_init 25 = .ok (.aload_n 0, 1) := by decide +kernel
theorem d_X_init_26 : decode b_X_init 26 = .ok (.bipush 60, 2) := by decide +kernel
theorem d_X_init_28 : decode b_X_init 28 = .ok (.newarray .int, 2) := by decide +kernel
theorem d_X_init_30 : decode b_X_init 30 = .ok (.putfield 22, 3) := by decide +kernel
theorem d_X_init_33 : decode b_X_init 33 = .ok (.aload_n 0, 1) := by decide +kernel
theorem d_X_init_34 : decode b_X_init 34 = .ok (.bipush 60, 2) := by decide +kernel
theorem d_X_init_36 : decode b_X_init 36 = .ok (.newarray .int, 2) := by decide +kernel
theorem d_X_init_38 : decode b_X_init 38 = .ok (.putfield 25, 3) := by decide +kernel
theorem d_X_init_41 : decode b_X_init 41 = .ok (.aload_n 0, 1) := by decide +kernel
theorem d_X_init_42 : decode b_X_init 42 = .ok (.bipush 60, 2) := by decide +kernel
theorem d_X_init_44 : decode b_X_init 44 = .ok (.newarray .long, 2) := by decide +kernel
theorem d_X_init_46 : decode b_X_init 46 = .ok (.putfield 28, 3) := by decide +kernel
theorem d_X_init_49 : decode b_X_init 49 = .ok (.aload_n 0, 1) := by decide +kernel
theorem d_X_init_50 : decode b_X_init 50 = .ok (.bipush 60, 2) := by decide +kernel
theorem d_X_init_52 : decode b_X_init 52 = .ok (.newarray .int, 2) := by decide +kernel
theorem d_X_init_54 : decode b_X_init 54 = .ok (.putfield 32, 3) := by decide +kernel
theorem d_X_init_57 : decode b_X_init 57 = .ok (.aload_n 0, 1) := by decide +kernel
theorem d_X_init_58 : decode b_X_init 58 = .ok (.bipush 60, 2) := by decide +kernel
theorem d_X_init_60 : decode b_X_init 60 = .ok (.newarray .int, 2) := by decide +kernel
theorem d_X_init_62 : decode b_X_init 62 = .ok (.putfield 35, 3) := by decide +kernel
theorem d_X_init_65 : decode b_X_init 65 = .ok (.aload_n 0, 1) := by decide +kernel
theorem d_X_init_66 : decode b_X_init 66 = .ok (.bipush 60, 2) := by decide +kernel
theorem d_X_init_68 : decode b_X_init 68 = .ok (.newarray .int, 2) := by decide +kernel
theorem d_X_init_70 : decode b_X_init 70 = .ok (.putfield 38, 3) := by decide +kernel
theorem d_X_init_73 : decode b_X_init 73 = .ok (.return_, 1) := by decide +kernel
theorem d_X_has_0 : decode b_X_has 0 = .ok (.iload_n 1, 1) := by decide +kernel
theorem d_X_has_1 : decode b_X_has 1 = .ok (.ifCond .lt 15, 3) := by decide +kernel
theorem d_X_has_4 : decode b_X_has 4 = .ok (.iload_n 1, 1) := by decide +kernel
theorem d_X_has_5 : decode b_X_has 5 = .ok (.aload_n 0, 1) := by decide +kernel
theorem d_X_has_6 : decode b_X_has 6 = .ok (.getfield 9, 3) := by decide +kernel
theorem d_X_has_9 : decode b_X_has 9 = .ok (.if_icmp .ge 7, 3) := by decide +kernel
theorem d_X_has_12 : decode b_X_has 12 = .ok (.iconst 1, 1) := by decide +kernel
theorem d_X_has_13 : decode b_X_has 13 = .ok (.goto 4, 3) := by decide +kernel
theorem d_X_has_16 : decode b_X_has 16 = .ok (.iconst 0, 1) := by decide +kernel
theorem d_X_has_17 : decode b_X_has 17 = .ok (.ireturn, 1) := by decide +kernel
theorem d_X_isFull_0 : decode b_X_isFull 0 = .ok (.aload_n 0, 1) := by decide +kernel
theorem d_X_isFull_1 : decode b_X_isFull 1 = .ok (.getfield 9, 3) := by decide +kernel
theorem d_X_isFull_4 : decode b_X_isFull 4 = .ok (.bipush 60, 2) := by decide +kernel
theorem d_X_isFull_6 : decode b_X_isFull 6 = .ok (.if_icmp .lt 7, 3) := by decide +kernel
theorem d_X_isFull_9 : decode b_X_isFull 9 = .ok (.iconst 1, 1) := by decide +kernel
theorem d_X_isFull_10 : decode b_X_isFull 10 = .ok (.goto 4, 3) := by decide +kernel
theorem d_X_isFull_13 : decode b_X_isFull 13 = .ok (.iconst 0, 1) := by decide +kernel
theorem d_X_isFull_14 : decode b_X_isFull 14 = .ok (.ireturn, 1) := by decide +kernel
theorem d_X_isTaken_0 : decode b_X_isTaken 0 = .ok (.iconst 0, 1) := by decide +kernel
theorem d_X_isTaken_1 : decode b_X_isTaken 1 = .ok (.istore_n 3, 1) := by decide +kernel
theorem d_X_isTaken_2 : decode b_X_isTaken 2 = .ok (.iload_n 3, 1) := by decide +kernel
theorem d_X_isTaken_3 : decode b_X_isTaken 3 = .ok (.aload_n 0, 1) := by decide +kernel
theorem d_X_isTaken_4 : decode b_X_isTaken 4 = .ok (.getfield 9, 3) := by decide +kernel
theorem d_X_isTaken_7 : decode b_X_isTaken 7 = .ok (.if_icmp .ge 31, 3) := by decide +kernel
theorem d_X_isTaken_10 : decode b_X_isTaken 10 = .ok (.aload_n 0, 1) := by decide +kernel
theorem d_X_isTaken_11 : decode b_X_isTaken 11 = .ok (.getfield 15, 3) := by decide +kernel
theorem d_X_isTaken_14 : decode b_X_isTaken 14 = .ok (.iload_n 3, 1) := by decide +kernel
theorem d_X_isTaken_15 : decode b_X_isTaken 15 = .ok (.iaload, 1) := by decide +kernel
theorem d_X_isTaken_16 : decode b_X_isTaken 16 = .ok (.iload_n 1, 1) := by decide +kernel
theorem d_X_isTaken_17 : decode b_X_isTaken 17 = .ok (.if_icmp .ne 15, 3) := by decide +kernel
theorem d_X_isTaken_20 : decode b_X_isTaken 20 = .ok (.aload_n 0, 1) := by decide +kernel
theorem d_X_isTaken_21 : decode b_X_isTaken 21 = .ok (.getfield 19, 3) := by decide +kernel
theorem d_X_isTaken_24 : decode b_X_isTaken 24 = .ok (.iload_n 3, 1) := by decide +kernel
theorem d_X_isTaken_25 : decode b_X_isTaken 25 = .ok (.iaload, 1) := by decide +kernel
theorem d_X_isTaken_26 : decode b_X_isTaken 26 = .ok (.iload_n 2, 1) := by decide +kernel
theorem d_X_isTaken_27 : decode b_X_isTaken 27 = .ok (.if_icmp .ne 5, 3) := by decide +kernel
theorem d_X_isTaken_30 : decode b_X_isTaken 30 = .ok (.iconst 1, 1) := by decide +kernel
theorem d_X_isTaken_31 : decode b_X_isTaken 31 = .ok (.ireturn, 1) := by decide +kernel
theorem d_X_isTaken_32 : decode b_X_isTaken 32 = .ok (.iinc 3 1, 3) := by decide +kernel
theorem d_X_isTaken_35 : decode b_X_isTaken 35 = .ok (.goto (-33), 3) := by decide +kernel
theorem d_X_isTaken_38 : decode b_X_isTaken 38 = .ok (.iconst 0, 1) := by decide +kernel
theorem d_X_isTaken_39 : decode b_X_isTaken 39 = .ok (.ireturn, 1) := by decide +kernel
theorem d_X_add_0 : decode b_X_add 0 = .ok (.aload_n 0, 1) := by decide +kernel
theorem d_X_add_1 : decode b_X_add 1 = .ok (.getfield 9, 3) := by decide +kernel
theorem d_X_add_4 : decode b_X_add 4 = .ok (.istore 4, 2) := by decide +kernel
theorem d_X_add_6 : decode b_X_add 6 = .ok (.aload_n 0, 1) := by decide +kernel
theorem d_X_add_7 : decode b_X_add 7 = .ok (.getfield 15, 3) := by decide +kernel
theorem d_X_add_10 : decode b_X_add 10 = .ok (.iload 4, 2) := by decide +kernel
theorem d_X_add_12 : decode b_X_add 12 = .ok (.iload_n 1, 1) := by decide +kernel
theorem d_X_add_13 : decode b_X_add 13 = .ok (.iastore, 1) := by decide +kernel
theorem d_X_add_14 : decode b_X_add 14 = .ok (.aload_n 0, 1) := by decide +kernel
theorem d_X_add_15 : decode b_X_add 15 = .ok (.getfield 19, 3) := by decide +kernel
theorem d_X_add_18 : decode b_X_add 18 = .ok (.iload 4, 2) := by decide +kernel
theorem d_X_add_20 : decode b_X_add 20 = .ok (.iload_n 2, 1) := by decide +kernel
theorem d_X_add_21 : decode b_X_add 21 = .ok (.iastore, 1) := by decide +kernel
theorem d_X_add_22 : decode b_X_add 22 = .ok (.aload_n 0, 1) := by decide +kernel
theorem d_X_add_23 : decode b_X_add 23 = .ok (.getfield 22, 3) := by decide +kernel
theorem d_X_add_26 : decode b_X_add 26 = .ok (.iload 4, 2) := by decide +kernel
theorem d_X_add_28 : decode b_X_add 28 = .ok (.iload_n 3, 1) := by decide +kernel
theorem d_X_add_29 : decode b_X_add 29 = .ok (.iastore, 1) := by decide +kernel
theorem d_X_add_30 : decode b_X_add 30 = .ok (.aload_n 0, 1) := by decide +kernel
theorem d_X_add_31 : decode b_X_add 31 = .ok (.getfield 25, 3) := by decide +kernel
theorem d_X_add_34 : decode b_X_add 34 = .ok (.iload 4, 2) := by decide +kernel
theorem d_X_add_36 : decode b_X_add 36 = .ok (.iconst (-1), 1) := by decide +kernel
theorem d_X_add_37 : decode b_X_add 37 = .ok (.iastore, 1) := by decide +kernel
theorem d_X_add_38 : decode b_X_add 38 = .ok (.aload_n 0, 1) := by decide +kernel
theorem d_X_add_39 : decode b_X_add 39 = .ok (.getfield 28, 3) := by decide +kernel
theorem d_X_add_42 : decode b_X_add 42 = .ok (.iload 4, 2) := by decide +kernel
theorem d_X_add_44 : decode b_X_add 44 = .ok (.lconst 0, 1) := by decide +kernel
theorem d_X_add_45 : decode b_X_add 45 = .ok (.lastore, 1) := by decide +kernel
theorem d_X_add_46 : decode b_X_add 46 = .ok (.aload_n 0, 1) := by decide +kernel
theorem d_X_add_47 : decode b_X_add 47 = .ok (.getfield 32, 3) := by decide +kernel
theorem d_X_add_50 : decode b_X_add 50 = .ok (.iload 4, 2) := by decide +kernel
theorem d_X_add_52 : decode b_X_add 52 = .ok (.iconst (-1), 1) := by decide +kernel
theorem d_X_add_53 : decode b_X_add 53 = .ok (.iastore, 1) := by decide +kernel
theorem d_X_add_54 : decode b_X_add 54 = .ok (.aload_n 0, 1) := by decide +kernel
theorem d_X_add_55 : decode b_X_add 55 = .ok (.getfield 35, 3) := by decide +kernel
theorem d_X_add_58 : decode b_X_add 58 = .ok (.iload 4, 2) := by decide +kernel
theorem d_X_add_60 : decode b_X_add 60 = .ok (.iconst (-1), 1) := by decide +kernel
theorem d_X_add_61 : decode b_X_add 61 = .ok (.iastore, 1) := by decide +kernel
theorem d_X_add_62 : decode b_X_add 62 = .ok (.aload_n 0, 1) := by decide +kernel
theorem d_X_add_63 : decode b_X_add 63 = .ok (.getfield 38, 3) := by decide +kernel
theorem d_X_add_66 : decode b_X_add 66 = .ok (.iload 4, 2) := by decide +kernel
theorem d_X_add_68 : decode b_X_add 68 = .ok (.iconst (-1), 1) := by decide +kernel
theorem d_X_add_69 : decode b_X_add 69 = .ok (.iastore, 1) := by decide +kernel
theorem d_X_add_70 : decode b_X_add 70 = .ok (.aload_n 0, 1) := by decide +kernel
theorem d_X_add_71 : decode b_X_add 71 = .ok (.dup, 1) := by decide +kernel
theorem d_X_add_72 : decode b_X_add 72 = .ok (.getfield 9, 3) := by decide +kernel
theorem d_X_add_75 : decode b_X_add 75 = .ok (.iconst 1, 1) := by decide +kernel
theorem d_X_add_76 : decode b_X_add 76 = .ok (.iadd, 1) := by decide +kernel
theorem d_X_add_77 : decode b_X_add 77 = .ok (.putfield 9, 3) := by decide +kernel
theorem d_X_add_80 : decode b_X_add 80 = .ok (.iload 4, 2) := by decide +kernel
theorem d_X_add_82 : decode b_X_add 82 = .ok (.ireturn, 1) := by decide +kernel
theorem d_X_isOn_0 : decode b_X_isOn 0 = .ok (.aload_n 0, 1) := by decide +kernel
theorem d_X_isOn_1 : decode b_X_isOn 1 = .ok (.getfield 28, 3) := by decide +kernel
theorem d_X_isOn_4 : decode b_X_isOn 4 = .ok (.iload_n 1, 1) := by decide +kernel
theorem d_X_isOn_5 : decode b_X_isOn 5 = .ok (.laload, 1) := by decide +kernel
theorem d_X_isOn_6 : decode b_X_isOn 6 = .ok (.lconst 1, 1) := by decide +kernel
theorem d_X_isOn_7 : decode b_X_isOn 7 = .ok (.iload_n 2, 1) := by decide +kernel
theorem d_X_isOn_8 : decode b_X_isOn 8 = .ok (.lshl, 1) := by decide +kernel
theorem d_X_isOn_9 : decode b_X_isOn 9 = .ok (.land, 1) := by decide +kernel
theorem d_X_isOn_10 : decode b_X_isOn 10 = .ok (.lconst 0, 1) := by decide +kernel
theorem d_X_isOn_11 : decode b_X_isOn 11 = .ok (.lcmp, 1) := by decide +kernel
theorem d_X_isOn_12 : decode b_X_isOn 12 = .ok (.ifCond .eq 7, 3) := by decide +kernel
theorem d_X_isOn_15 : decode b_X_isOn 15 = .ok (.iconst 1, 1) := by decide +kernel
theorem d_X_isOn_16 : decode b_X_isOn 16 = .ok (.goto 4, 3) := by decide +kernel
theorem d_X_isOn_19 : decode b_X_isOn 19 = .ok (.iconst 0, 1) := by decide +kernel
theorem d_X_isOn_20 : decode b_X_isOn 20 = .ok (.ireturn, 1) := by decide +kernel
theorem d_X_putOn_0 : decode b_X_putOn 0 = .ok (.aload_n 0, 1) := by decide +kernel
theorem d_X_putOn_1 : decode b_X_putOn 1 = .ok (.getfield 28, 3) := by decide +kernel
theorem d_X_putOn_4 : decode b_X_putOn 4 = .ok (.iload_n 1, 1) := by decide +kernel
theorem d_X_putOn_5 : decode b_X_putOn 5 = .ok (.dup2, 1) := by decide +kernel
theorem d_X_putOn_6 : decode b_X_putOn 6 = .ok (.laload, 1) := by decide +kernel
theorem d_X_putOn_7 : decode b_X_putOn 7 = .ok (.lconst 1, 1) := by decide +kernel
theorem d_X_putOn_8 : decode b_X_putOn 8 = .ok (.iload_n 2, 1) := by decide +kernel
theorem d_X_putOn_9 : decode b_X_putOn 9 = .ok (.lshl, 1) := by decide +kernel
theorem d_X_putOn_10 : decode b_X_putOn 10 = .ok (.lor, 1) := by decide +kernel
theorem d_X_putOn_11 : decode b_X_putOn 11 = .ok (.lastore, 1) := by decide +kernel
theorem d_X_putOn_12 : decode b_X_putOn 12 = .ok (.return_, 1) := by decide +kernel
theorem d_X_billsOf_0 : decode b_X_billsOf 0 = .ok (.aload_n 0, 1) := by decide +kernel
theorem d_X_billsOf_1 : decode b_X_billsOf 1 = .ok (.getfield 28, 3) := by decide +kernel
theorem d_X_billsOf_4 : decode b_X_billsOf 4 = .ok (.iload_n 1, 1) := by decide +kernel
theorem d_X_billsOf_5 : decode b_X_billsOf 5 = .ok (.laload, 1) := by decide +kernel
theorem d_X_billsOf_6 : decode b_X_billsOf 6 = .ok (.invokestatic 41, 3) := by decide +kernel
theorem d_X_billsOf_9 : decode b_X_billsOf 9 = .ok (.ireturn, 1) := by decide +kernel
theorem d_X_billAt_0 : decode b_X_billAt 0 = .ok (.iconst 0, 1) := by decide +kernel
theorem d_X_billAt_1 : decode b_X_billAt 1 = .ok (.istore_n 3, 1) := by decide +kernel
theorem d_X_billAt_2 : decode b_X_billAt 2 = .ok (.iconst 0, 1) := by decide +kernel
theorem d_X_billAt_3 : decode b_X_billAt 3 = .ok (.istore 4, 2) := by decide +kernel
theorem d_X_billAt_5 : decode b_X_billAt 5 = .ok (.iload 4, 2) := by decide +kernel
theorem d_X_billAt_7 : decode b_X_billAt 7 = .ok (.bipush 60, 2) := by decide +kernel
theorem d_X_billAt_9 : decode b_X_billAt 9 = .ok (.if_icmp .ge 30, 3) := by decide +kernel
theorem d_X_billAt_12 : decode b_X_billAt 12 = .ok (.aload_n 0, 1) := by decide +kernel
theorem d_X_billAt_13 : decode b_X_billAt 13 = .ok (.iload_n 1, 1) := by decide +kernel
theorem d_X_billAt_14 : decode b_X_billAt 14 = .ok (.iload 4, 2) := by decide +kernel
theorem d_X_billAt_16 : decode b_X_billAt 16 = .ok (.invokevirtual 47, 3) := by decide +kernel
theorem d_X_billAt_19 : decode b_X_billAt 19 = .ok (.ifCond .eq 14, 3) := by decide +kernel
theorem d_X_billAt_22 : decode b_X_billAt 22 = .ok (.iload_n 3, 1) := by decide +kernel
theorem d_X_billAt_23 : decode b_X_billAt 23 = .ok (.iload_n 2, 1) := by decide +kernel
theorem d_X_billAt_24 : decode b_X_billAt 24 = .ok (.if_icmp .ne 6, 3) := by decide +kernel
theorem d_X_billAt_27 : decode b_X_billAt 27 = .ok (.iload 4, 2) := by decide +kernel
theorem d_X_billAt_29 : decode b_X_billAt 29 = .ok (.ireturn, 1) := by decide +kernel
theorem d_X_billAt_30 : decode b_X_billAt 30 = .ok (.iinc 3 1, 3) := by decide +kernel
theorem d_X_billAt_33 : decode b_X_billAt 33 = .ok (.iinc 4 1, 3) := by decide +kernel
theorem d_X_billAt_36 : decode b_X_billAt 36 = .ok (.goto (-31), 3) := by decide +kernel
theorem d_X_billAt_39 : decode b_X_billAt 39 = .ok (.iconst (-1), 1) := by decide +kernel
theorem d_X_billAt_40 : decode b_X_billAt 40 = .ok (.ireturn, 1) := by decide +kernel
theorem d_X_hasLanded_0 : decode b_X_hasLanded 0 = .ok (.aload_n 0, 1) := by decide +kernel
theorem d_X_hasLanded_1 : decode b_X_hasLanded 1 = .ok (.getfield 25, 3) := by decide +kernel
theorem d_X_hasLanded_4 : decode b_X_hasLanded 4 = .ok (.iload_n 1, 1) := by decide +kernel
theorem d_X_hasLanded_5 : decode b_X_hasLanded 5 = .ok (.iaload, 1) := by decide +kernel
theorem d_X_hasLanded_6 : decode b_X_hasLanded 6 = .ok (.iconst (-1), 1) := by decide +kernel
theorem d_X_hasLanded_7 : decode b_X_hasLanded 7 = .ok (.if_icmp .eq 7, 3) := by decide +kernel
theorem d_X_hasLanded_10 : decode b_X_hasLanded 10 = .ok (.iconst 1, 1) := by decide +kernel
theorem d_X_hasLanded_11 : decode b_X_hasLanded 11 = .ok (.goto 4, 3) := by decide +kernel
theorem d_X_hasLanded_14 : decode b_X_hasLanded 14 = .ok (.iconst 0, 1) := by decide +kernel
theorem d_X_hasLanded_15 : decode b_X_hasLanded 15 = .ok (.ireturn, 1) := by decide +kernel
theorem d_X_isOrdered_0 : decode b_X_isOrdered 0 = .ok (.aload_n 0, 1) := by decide +kernel
theorem d_X_isOrdered_1 : decode b_X_isOrdered 1 = .ok (.getfield 32, 3) := by decide +kernel
theorem d_X_isOrdered_4 : decode b_X_isOrdered 4 = .ok (.iload_n 1, 1) := by decide +kernel
theorem d_X_isOrdered_5 : decode b_X_isOrdered 5 = .ok (.iaload, 1) := by decide +kernel
theorem d_X_isOrdered_6 : decode b_X_isOrdered 6 = .ok (.iconst (-1), 1) := by decide +kernel
theorem d_X_isOrdered_7 : decode b_X_isOrdered 7 = .ok (.if_icmp .eq 7, 3) := by decide +kernel
theorem d_X_isOrdered_10 : decode b_X_isOrdered 10 = .ok (.iconst 1, 1) := by decide +kernel
theorem d_X_isOrdered_11 : decode b_X_isOrdered 11 = .ok (.goto 4, 3) := by decide +kernel
theorem d_X_isOrdered_14 : decode b_X_isOrdered 14 = .ok (.iconst 0, 1) := by decide +kernel
theorem d_X_isOrdered_15 : decode b_X_isOrdered 15 = .ok (.ireturn, 1) := by decide +kernel
theorem d_X_isWaiting_0 : decode b_X_isWaiting 0 = .ok (.aload_n 0, 1) := by decide +kernel
theorem d_X_isWaiting_1 : decode b_X_isWaiting 1 = .ok (.iload_n 1, 1) := by decide +kernel
theorem d_X_isWaiting_2 : decode b_X_isWaiting 2 = .ok (.invokevirtual 51, 3) := by decide +kernel
theorem d_X_isWaiting_5 : decode b_X_isWaiting 5 = .ok (.ifCond .eq 18, 3) := by decide +kernel
theorem d_X_isWaiting_8 : decode b_X_isWaiting 8 = .ok (.aload_n 0, 1) := by decide +kernel
theorem d_X_isWaiting_9 : decode b_X_isWaiting 9 = .ok (.getfield 28, 3) := by decide +kernel
theorem d_X_isWaiting_12 : decode b_X_isWaiting 12 = .ok (.iload_n 1, 1) := by decide +kernel
theorem d_X_isWaiting_13 : decode b_X_isWaiting 13 = .ok (.laload, 1) := by decide +kernel
theorem d_X_isWaiting_14 : decode b_X_isWaiting 14 = .ok (.lconst 0, 1) := by decide +kernel
theorem d_X_isWaiting_15 : decode b_X_isWaiting 15 = .ok (.lcmp, 1) := by decide +kernel
theorem d_X_isWaiting_16 : decode b_X_isWaiting 16 = .ok (.ifCond .ne 7, 3) := by decide +kernel
theorem d_X_isWaiting_19 : decode b_X_isWaiting 19 = .ok (.iconst 1, 1) := by decide +kernel
theorem d_X_isWaiting_20 : decode b_X_isWaiting 20 = .ok (.goto 4, 3) := by decide +kernel
theorem d_X_isWaiting_23 : decode b_X_isWaiting 23 = .ok (.iconst 0, 1) := by decide +kernel
theorem d_X_isWaiting_24 : decode b_X_isWaiting 24 = .ok (.ireturn, 1) := by decide +kernel
theorem d_X_boxesOn_0 : decode b_X_boxesOn 0 = .ok (.iconst 0, 1) := by decide +kernel
theorem d_X_boxesOn_1 : decode b_X_boxesOn 1 = .ok (.istore_n 2, 1) := by decide +kernel
theorem d_X_boxesOn_2 : decode b_X_boxesOn 2 = .ok (.iconst 0, 1) := by decide +kernel
theorem d_X_boxesOn_3 : decode b_X_boxesOn 3 = .ok (.istore_n 3, 1) := by decide +kernel
theorem d_X_boxesOn_4 : decode b_X_boxesOn 4 = .ok (.iload_n 3, 1) := by decide +kernel
theorem d_X_boxesOn_5 : decode b_X_boxesOn 5 = .ok (.aload_n 0, 1) := by decide +kernel
theorem d_X_boxesOn_6 : decode b_X_boxesOn 6 = .ok (.getfield 9, 3) := by decide +kernel
theorem d_X_boxesOn_9 : decode b_X_boxesOn 9 = .ok (.if_icmp .ge 21, 3) := by decide +kernel
theorem d_X_boxesOn_12 : decode b_X_boxesOn 12 = .ok (.aload_n 0, 1) := by decide +kernel
theorem d_X_boxesOn_13 : decode b_X_boxesOn 13 = .ok (.iload_n 3, 1) := by decide +kernel
theorem d_X_boxesOn_14 : decode b_X_boxesOn 14 = .ok (.iload_n 1, 1) := by decide +kernel
theorem d_X_boxesOn_15 : decode b_X_boxesOn 15 = .ok (.invokevirtual 47, 3) := by decide +kernel
theorem d_X_boxesOn_18 : decode b_X_boxesOn 18 = .ok (.ifCond .eq 6, 3) := by decide +kernel
theorem d_X_boxesOn_21 : decode b_X_boxesOn 21 = .ok (.iinc 2 1, 3) := by decide +kernel
theorem d_X_boxesOn_24 : decode b_X_boxesOn 24 = .ok (.iinc 3 1, 3) := by decide +kernel
theorem d_X_boxesOn_27 : decode b_X_boxesOn 27 = .ok (.goto (-23), 3) := by decide +kernel
theorem d_X_boxesOn_30 : decode b_X_boxesOn 30 = .ok (.iload_n 2, 1) := by decide +kernel
theorem d_X_boxesOn_31 : decode b_X_boxesOn 31 = .ok (.ireturn, 1) := by decide +kernel
theorem d_X_landedOf_0 : decode b_X_landedOf 0 = .ok (.iconst 0, 1) := by decide +kernel
theorem d_X_landedOf_1 : decode b_X_landedOf 1 = .ok (.istore_n 2, 1) := by decide +kernel
theorem d_X_landedOf_2 : decode b_X_landedOf 2 = .ok (.iconst 0, 1) := by decide +kernel
theorem d_X_landedOf_3 : decode b_X_landedOf 3 = .ok (.istore_n 3, 1) := by decide +kernel
theorem d_X_landedOf_4 : decode b_X_landedOf 4 = .ok (.iload_n 3, 1) := by decide +kernel
theorem d_X_landedOf_5 : decode b_X_landedOf 5 = .ok (.aload_n 0, 1) := by decide +kernel
theorem d_X_landedOf_6 : decode b_X_landedOf 6 = .ok (.getfield 9, 3) := by decide +kernel
theorem d_X_landedOf_9 : decode b_X_landedOf 9 = .ok (.if_icmp .ge 35, 3) := by decide +kernel
theorem d_X_landedOf_12 : decode b_X_landedOf 12 = .ok (.aload_n 0, 1) := by decide +kernel
theorem d_X_landedOf_13 : decode b_X_landedOf 13 = .ok (.iload_n 3, 1) := by decide +kernel
theorem d_X_landedOf_14 : decode b_X_landedOf 14 = .ok (.iload_n 1, 1) := by decide +kernel
theorem d_X_landedOf_15 : decode b_X_landedOf 15 = .ok (.invokevirtual 47, 3) := by decide +kernel
theorem d_X_landedOf_18 : decode b_X_landedOf 18 = .ok (.ifCond .eq 20, 3) := by decide +kernel
theorem d_X_landedOf_21 : decode b_X_landedOf 21 = .ok (.aload_n 0, 1) := by decide +kernel
theorem d_X_landedOf_22 : decode b_X_landedOf 22 = .ok (.iload_n 3, 1) := by decide +kernel
theorem d_X_landedOf_23 : decode b_X_landedOf 23 = .ok (.invokevirtual 51, 3) := by decide +kernel
theorem d_X_landedOf_26 : decode b_X_landedOf 26 = .ok (.ifCond .eq 12, 3) := by decide +kernel
theorem d_X_landedOf_29 : decode b_X_landedOf 29 = .ok (.iload_n 2, 1) := by decide +kernel
theorem d_X_landedOf_30 : decode b_X_landedOf 30 = .ok (.aload_n 0, 1) := by decide +kernel
theorem d_X_landedOf_31 : decode b_X_landedOf 31 = .ok (.iload_n 3, 1) := by decide +kernel
theorem d_X_landedOf_32 : decode b_X_landedOf 32 = .ok (.iload_n 1, 1) := by decide +kernel
theorem d_X_landedOf_33 : decode b_X_landedOf 33 = .ok (.invokevirtual 55, 3) := by decide +kernel
theorem d_X_landedOf_36 : decode b_X_landedOf 36 = .ok (.iadd, 1) := by decide +kernel
theorem d_X_landedOf_37 : decode b_X_landedOf 37 = .ok (.istore_n 2, 1) := by decide +kernel
theorem d_X_landedOf_38 : decode b_X_landedOf 38 = .ok (.iinc 3 1, 3) := by decide +kernel
theorem d_X_landedOf_41 : decode b_X_landedOf 41 = .ok (.goto (-37), 3) := by decide +kernel
theorem d_X_landedOf_44 : decode b_X_landedOf 44 = .ok (.iload_n 2, 1) := by decide +kernel
theorem d_X_landedOf_45 : decode b_X_landedOf 45 = .ok (.ireturn, 1) := by decide +kernel
theorem d_X_share_0 : decode b_X_share 0 = .ok (.aload_n 0, 1) := by decide +kernel
theorem d_X_share_1 : decode b_X_share 1 = .ok (.iload_n 1, 1) := by decide +kernel
theorem d_X_share_2 : decode b_X_share 2 = .ok (.invokevirtual 59, 3) := by decide +kernel
theorem d_X_share_5 : decode b_X_share 5 = .ok (.istore_n 3, 1) := by decide +kernel
theorem d_X_share_6 : decode b_X_share 6 = .ok (.iload_n 3, 1) := by decide +kernel
theorem d_X_share_7 : decode b_X_share 7 = .ok (.ifCond .ne 5, 3) := by decide +kernel
theorem d_X_share_10 : decode b_X_share 10 = .ok (.iconst 0, 1) := by decide +kernel
theorem d_X_share_11 : decode b_X_share 11 = .ok (.ireturn, 1) := by decide +kernel
theorem d_X_share_12 : decode b_X_share 12 = .ok (.aload_n 0, 1) := by decide +kernel
theorem d_X_share_13 : decode b_X_share 13 = .ok (.getfield 28, 3) := by decide +kernel
theorem d_X_share_16 : decode b_X_share 16 = .ok (.iload_n 1, 1) := by decide +kernel
theorem d_X_share_17 : decode b_X_share 17 = .ok (.laload, 1) := by decide +kernel
theorem d_X_share_18 : decode b_X_share 18 = .ok (.lconst 1, 1) := by decide +kernel
theorem d_X_share_19 : decode b_X_share 19 = .ok (.iload_n 2, 1) := by decide +kernel
theorem d_X_share_20 : decode b_X_share 20 = .ok (.lshl, 1) := by decide +kernel
theorem d_X_share_21 : decode b_X_share 21 = .ok (.lconst 1, 1) := by decide +kernel
theorem d_X_share_22 : decode b_X_share 22 = .ok (.lsub, 1) := by decide +kernel
theorem d_X_share_23 : decode b_X_share 23 = .ok (.land, 1) := by decide +kernel
theorem d_X_share_24 : decode b_X_share 24 = .ok (.invokestatic 41, 3) := by decide +kernel
theorem d_X_share_27 : decode b_X_share 27 = .ok (.istore 4, 2) := by decide +kernel
theorem d_X_share_29 : decode b_X_share 29 = .ok (.aload_n 0, 1) := by decide +kernel
theorem d_X_share_30 : decode b_X_share 30 = .ok (.getfield 25, 3) := by decide +kernel
theorem d_X_share_33 : decode b_X_share 33 = .ok (.iload_n 1, 1) := by decide +kernel
theorem d_X_share_34 : decode b_X_share 34 = .ok (.iaload, 1) := by decide +kernel
theorem d_X_share_35 : decode b_X_share 35 = .ok (.iload_n 3, 1) := by decide +kernel
theorem d_X_share_36 : decode b_X_share 36 = .ok (.idiv, 1) := by decide +kernel
theorem d_X_share_37 : decode b_X_share 37 = .ok (.iload 4, 2) := by decide +kernel
theorem d_X_share_39 : decode b_X_share 39 = .ok (.aload_n 0, 1) := by decide +kernel
theorem d_X_share_40 : decode b_X_share 40 = .ok (.getfield 25, 3) := by decide +kernel
theorem d_X_share_43 : decode b_X_share 43 = .ok (.iload_n 1, 1) := by decide +kernel
theorem d_X_share_44 : decode b_X_share 44 = .ok (.iaload, 1) := by decide +kernel
theorem d_X_share_45 : decode b_X_share 45 = .ok (.iload_n 3, 1) := by decide +kernel
theorem d_X_share_46 : decode b_X_share 46 = .ok (.irem, 1) := by decide +kernel
theorem d_X_share_47 : decode b_X_share 47 = .ok (.if_icmp .ge 7, 3) := by decide +kernel
theorem d_X_share_50 : decode b_X_share 50 = .ok (.iconst 1, 1) := by decide +kernel
theorem d_X_share_51 : decode b_X_share 51 = .ok (.goto 4, 3) := by decide +kernel
theorem d_X_share_54 : decode b_X_share 54 = .ok (.iconst 0, 1) := by decide +kernel
theorem d_X_share_55 : decode b_X_share 55 = .ok (.iadd, 1) := by decide +kernel
theorem d_X_share_56 : decode b_X_share 56 = .ok (.ireturn, 1) := by decide +kernel
theorem d_X_first_0 : decode b_X_first 0 = .ok (.iload_n 1, 1) := by decide +kernel
theorem d_X_first_1 : decode b_X_first 1 = .ok (.istore_n 2, 1) := by decide +kernel
theorem d_X_first_2 : decode b_X_first 2 = .ok (.iconst 0, 1) := by decide +kernel
theorem d_X_first_3 : decode b_X_first 3 = .ok (.istore_n 3, 1) := by decide +kernel
theorem d_X_first_4 : decode b_X_first 4 = .ok (.iload_n 3, 1) := by decide +kernel
theorem d_X_first_5 : decode b_X_first 5 = .ok (.bipush 60, 2) := by decide +kernel
theorem d_X_first_7 : decode b_X_first 7 = .ok (.if_icmp .ge 29, 3) := by decide +kernel
theorem d_X_first_10 : decode b_X_first 10 = .ok (.aload_n 0, 1) := by decide +kernel
theorem d_X_first_11 : decode b_X_first 11 = .ok (.aload_n 0, 1) := by decide +kernel
theorem d_X_first_12 : decode b_X_first 12 = .ok (.getfield 38, 3) := by decide +kernel
theorem d_X_first_15 : decode b_X_first 15 = .ok (.iload_n 2, 1) := by decide +kernel
theorem d_X_first_16 : decode b_X_first 16 = .ok (.iaload, 1) := by decide +kernel
theorem d_X_first_17 : decode b_X_first 17 = .ok (.invokevirtual 63, 3) := by decide +kernel
theorem d_X_first_20 : decode b_X_first 20 = .ok (.ifCond .eq 16, 3) := by decide +kernel
theorem d_X_first_23 : decode b_X_first 23 = .ok (.aload_n 0, 1) := by decide +kernel
theorem d_X_first_24 : decode b_X_first 24 = .ok (.getfield 38, 3) := by decide +kernel
theorem d_X_first_27 : decode b_X_first 27 = .ok (.iload_n 2, 1) := by decide +kernel
theorem d_X_first_28 : decode b_X_first 28 = .ok (.iaload, 1) := by decide +kernel
theorem d_X_first_29 : decode b_X_first 29 = .ok (.istore_n 2, 1) := by decide +kernel
theorem d_X_first_30 : decode b_X_first 30 = .ok (.iinc 3 1, 3) := by decide +kernel
theorem d_X_first_33 : decode b_X_first 33 = .ok (.goto (-29), 3) := by decide +kernel
theorem d_X_first_36 : decode b_X_first 36 = .ok (.iload_n 2, 1) := by decide +kernel
theorem d_X_first_37 : decode b_X_first 37 = .ok (.ireturn, 1) := by decide +kernel
theorem d_X_weightSoFar_0 : decode b_X_weightSoFar 0 = .ok (.iload_n 1, 1) := by decide +kernel
theorem d_X_weightSoFar_1 : decode b_X_weightSoFar 1 = .ok (.istore_n 2, 1) := by decide +kernel
theorem d_X_weightSoFar_2 : decode b_X_weightSoFar 2 = .ok (.aload_n 0, 1) := by decide +kernel
theorem d_X_weightSoFar_3 : decode b_X_weightSoFar 3 = .ok (.getfield 22, 3) := by decide +kernel
theorem d_X_weightSoFar_6 : decode b_X_weightSoFar 6 = .ok (.iload_n 1, 1) := by decide +kernel
theorem d_X_weightSoFar_7 : decode b_X_weightSoFar 7 = .ok (.iaload, 1) := by decide +kernel
theorem d_X_weightSoFar_8 : decode b_X_weightSoFar 8 = .ok (.istore_n 3, 1) := by decide +kernel
theorem d_X_weightSoFar_9 : decode b_X_weightSoFar 9 = .ok (.iconst 0, 1) := by decide +kernel
theorem d_X_weightSoFar_10 : decode b_X_weightSoFar 10 = .ok (.istore 4, 2) := by decide +kernel
theorem d_X_weightSoFar_12 : decode b_X_weightSoFar 12 = .ok (.iload 4, 2) := by decide +kernel
theorem d_X_weightSoFar_14 : decode b_X_weightSoFar 14 = .ok (.bipush 60, 2) := by decide +kernel
theorem d_X_weightSoFar_16 : decode b_X_weightSoFar 16 = .ok (.if_icmp .ge 38, 3) := by decide +kernel
theorem d_X_weightSoFar_19 : decode b_X_weightSoFar 19 = .ok (.aload_n 0, 1) := by decide +kernel
theorem d_X_weightSoFar_20 : decode b_X_weightSoFar 20 = .ok (.aload_n 0, 1) := by decide +kernel
theorem d_X_weightSoFar_21 : decode b_X_weightSoFar 21 = .ok (.getfield 38, 3) := by decide +kernel
theorem d_X_weightSoFar_24 : decode b_X_weightSoFar 24 = .ok (.iload_n 2, 1) := by decide +kernel
theorem d_X_weightSoFar_25 : decode b_X_weightSoFar 25 = .ok (.iaload, 1) := by decide +kernel
theorem d_X_weightSoFar_26 : decode b_X_weightSoFar 26 = .ok (.invokevirtual 63, 3) := by decide +kernel
theorem d_X_weightSoFar_29 : decode b_X_weightSoFar 29 = .ok (.ifCond .eq 25, 3) := by decide +kernel
theorem d_X_weightSoFar_32 : decode b_X_weightSoFar 32 = .ok (.aload_n 0, 1) := by decide +kernel
theorem d_X_weightSoFar_33 : decode b_X_weightSoFar 33 = .ok (.getfield 38, 3) := by decide +kernel
theorem d_X_weightSoFar_36 : decode b_X_weightSoFar 36 = .ok (.iload_n 2, 1) := by decide +kernel
theorem d_X_weightSoFar_37 : decode b_X_weightSoFar 37 = .ok (.iaload, 1) := by decide +kernel
theorem d_X_weightSoFar_38 : decode b_X_weightSoFar 38 = .ok (.istore_n 2, 1) := by decide +kernel
theorem d_X_weightSoFar_39 : decode b_X_weightSoFar 39 = .ok (.iload_n 3, 1) := by decide +kernel
theorem d_X_weightSoFar_40 : decode b_X_weightSoFar 40 = .ok (.aload_n 0, 1) := by decide +kernel
theorem d_X_weightSoFar_41 : decode b_X_weightSoFar 41 = .ok (.getfield 22, 3) := by decide +kernel
theorem d_X_weightSoFar_44 : decode b_X_weightSoFar 44 = .ok (.iload_n 2, 1) := by decide +kernel
theorem d_X_weightSoFar_45 : decode b_X_weightSoFar 45 = .ok (.iaload, 1) := by decide +kernel
theorem d_X_weightSoFar_46 : decode b_X_weightSoFar 46 = .ok (.iadd, 1) := by decide +kernel
theorem d_X_weightSoFar_47 : decode b_X_weightSoFar 47 = .ok (.istore_n 3, 1) := by decide +kernel
theorem d_X_weightSoFar_48 : decode b_X_weightSoFar 48 = .ok (.iinc 4 1, 3) := by decide +kernel
theorem d_X_weightSoFar_51 : decode b_X_weightSoFar 51 = .ok (.goto (-39), 3) := by decide +kernel
theorem d_X_weightSoFar_54 : decode b_X_weightSoFar 54 = .ok (.iload_n 3, 1) := by decide +kernel
theorem d_X_weightSoFar_55 : decode b_X_weightSoFar 55 = .ok (.ireturn, 1) := by decide +kernel
theorem d_X_landedOnes_0 : decode b_X_landedOnes 0 = .ok (.iconst 0, 1) := by decide +kernel
theorem d_X_landedOnes_1 : decode b_X_landedOnes 1 = .ok (.istore_n 1, 1) := by decide +kernel
theorem d_X_landedOnes_2 : decode b_X_landedOnes 2 = .ok (.iconst 0, 1) := by decide +kernel
theorem d_X_landedOnes_3 : decode b_X_landedOnes 3 = .ok (.istore_n 2, 1) := by decide +kernel
theorem d_X_landedOnes_4 : decode b_X_landedOnes 4 = .ok (.iload_n 2, 1) := by decide +kernel
theorem d_X_landedOnes_5 : decode b_X_landedOnes 5 = .ok (.aload_n 0, 1) := by decide +kernel
theorem d_X_landedOnes_6 : decode b_X_landedOnes 6 = .ok (.getfield 9, 3) := by decide +kernel
theorem d_X_landedOnes_9 : decode b_X_landedOnes 9 = .ok (.if_icmp .ge 20, 3) := by decide +kernel
theorem d_X_landedOnes_12 : decode b_X_landedOnes 12 = .ok (.aload_n 0, 1) := by decide +kernel
theorem d_X_landedOnes_13 : decode b_X_landedOnes 13 = .ok (.iload_n 2, 1) := by decide +kernel
theorem d_X_landedOnes_14 : decode b_X_landedOnes 14 = .ok (.invokevirtual 51, 3) := by decide +kernel
theorem d_X_landedOnes_17 : decode b_X_landedOnes 17 = .ok (.ifCond .eq 6, 3) := by decide +kernel
theorem d_X_landedOnes_20 : decode b_X_landedOnes 20 = .ok (.iinc 1 1, 3) := by decide +kernel
theorem d_X_landedOnes_23 : decode b_X_landedOnes 23 = .ok (.iinc 2 1, 3) := by decide +kernel
theorem d_X_landedOnes_26 : decode b_X_landedOnes 26 = .ok (.goto (-22), 3) := by decide +kernel
theorem d_X_landedOnes_29 : decode b_X_landedOnes 29 = .ok (.iload_n 1, 1) := by decide +kernel
theorem d_X_landedOnes_30 : decode b_X_landedOnes 30 = .ok (.ireturn, 1) := by decide +kernel
theorem d_X_orderedOnes_0 : decode b_X_orderedOnes 0 = .ok (.iconst 0, 1) := by decide +kernel
theorem d_X_orderedOnes_1 : decode b_X_orderedOnes 1 = .ok (.istore_n 1, 1) := by decide +kernel
theorem d_X_orderedOnes_2 : decode b_X_orderedOnes 2 = .ok (.iconst 0, 1) := by decide +kernel
theorem d_X_orderedOnes_3 : decode b_X_orderedOnes 3 = .ok (.istore_n 2, 1) := by decide +kernel
theorem d_X_orderedOnes_4 : decode b_X_orderedOnes 4 = .ok (.iload_n 2, 1) := by decide +kernel
theorem d_X_orderedOnes_5 : decode b_X_orderedOnes 5 = .ok (.aload_n 0, 1) := by decide +kernel
theorem d_X_orderedOnes_6 : decode b_X_orderedOnes 6 = .ok (.getfield 9, 3) := by decide +kernel
theorem d_X_orderedOnes_9 : decode b_X_orderedOnes 9 = .ok (.if_icmp .ge 20, 3) := by decide +kernel
theorem d_X_orderedOnes_12 : decode b_X_orderedOnes 12 = .ok (.aload_n 0, 1) := by decide +kernel
theorem d_X_orderedOnes_13 : decode b_X_orderedOnes 13 = .ok (.iload_n 2, 1) := by decide +kernel
theorem d_X_orderedOnes_14 : decode b_X_orderedOnes 14 = .ok (.invokevirtual 66, 3) := by decide +kernel
theorem d_X_orderedOnes_17 : decode b_X_orderedOnes 17 = .ok (.ifCond .eq 6, 3) := by decide +kernel
theorem d_X_orderedOnes_20 : decode b_X_orderedOnes 20 = .ok (.iinc 1 1, 3) := by decide +kernel
theorem d_X_orderedOnes_23 : decode b_X_orderedOnes 23 = .ok (.iinc 2 1, 3) := by decide +kernel
theorem d_X_orderedOnes_26 : decode b_X_orderedOnes 26 = .ok (.goto (-22), 3) := by decide +kernel
theorem d_X_orderedOnes_29 : decode b_X_orderedOnes 29 = .ok (.iload_n 1, 1) := by decide +kernel
theorem d_X_orderedOnes_30 : decode b_X_orderedOnes 30 = .ok (.ireturn, 1) := by decide +kernel
theorem d_X_waitingOnes_0 : decode b_X_waitingOnes 0 = .ok (.iconst 0, 1) := by decide +kernel
theorem d_X_waitingOnes_1 : decode b_X_waitingOnes 1 = .ok (.istore_n 1, 1) := by decide +kernel
theorem d_X_waitingOnes_2 : decode b_X_waitingOnes 2 = .ok (.iconst 0, 1) := by decide +kernel
theorem d_X_waitingOnes_3 : decode b_X_waitingOnes 3 = .ok (.istore_n 2, 1) := by decide +kernel
theorem d_X_waitingOnes_4 : decode b_X_waitingOnes 4 = .ok (.iload_n 2, 1) := by decide +kernel
theorem d_X_waitingOnes_5 : decode b_X_waitingOnes 5 = .ok (.aload_n 0, 1) := by decide +kernel
theorem d_X_waitingOnes_6 : decode b_X_waitingOnes 6 = .ok (.getfield 9, 3) := by decide +kernel
theorem d_X_waitingOnes_9 : decode b_X_waitingOnes 9 = .ok (.if_icmp .ge 20, 3) := by decide +kernel
theorem d_X_waitingOnes_12 : decode b_X_waitingOnes 12 = .ok (.aload_n 0, 1) := by decide +kernel
theorem d_X_waitingOnes_13 : decode b_X_waitingOnes 13 = .ok (.iload_n 2, 1) := by decide +kernel
theorem d_X_waitingOnes_14 : decode b_X_waitingOnes 14 = .ok (.invokevirtual 69, 3) := by decide +kernel
theorem d_X_waitingOnes_17 : decode b_X_waitingOnes 17 = .ok (.ifCond .eq 6, 3) := by decide +kernel
theorem d_X_waitingOnes_20 : decode b_X_waitingOnes 20 = .ok (.iinc 1 1, 3) := by decide +kernel
theorem d_X_waitingOnes_23 : decode b_X_waitingOnes 23 = .ok (.iinc 2 1, 3) := by decide +kernel
theorem d_X_waitingOnes_26 : decode b_X_waitingOnes 26 = .ok (.goto (-22), 3) := by decide +kernel
theorem d_X_waitingOnes_29 : decode b_X_waitingOnes 29 = .ok (.iload_n 1, 1) := by decide +kernel
theorem d_X_waitingOnes_30 : decode b_X_waitingOnes 30 = .ok (.ireturn, 1) := by decide +kernel
theorem d_J_bitCount_0 : decode b_J_bitCount 0 = .ok (.lload_n 0, 1) := by decide +kernel
theorem d_J_bitCount_1 : decode b_J_bitCount 1 = .ok (.lload_n 0, 1) := by decide +kernel
theorem d_J_bitCount_2 : decode b_J_bitCount 2 = .ok (.iconst 1, 1) := by decide +kernel
theorem d_J_bitCount_3 : decode b_J_bitCount 3 = .ok (.lushr, 1) := by decide +kernel
theorem d_J_bitCount_4 : decode b_J_bitCount 4 = .ok (.ldc2_w 314, 3) := by decide +kernel
theorem d_J_bitCount_7 : decode b_J_bitCount 7 = .ok (.land, 1) := by decide +kernel
theorem d_J_bitCount_8 : decode b_J_bitCount 8 = .ok (.lsub, 1) := by decide +kernel
theorem d_J_bitCount_9 : decode b_J_bitCount 9 = .ok (.lstore_n 0, 1) := by decide +kernel
theorem d_J_bitCount_10 : decode b_J_bitCount 10 = .ok (.lload_n 0, 1) := by decide +kernel
theorem d_J_bitCount_11 : decode b_J_bitCount 11 = .ok (.ldc2_w 316, 3) := by decide +kernel
theorem d_J_bitCount_14 : decode b_J_bitCount 14 = .ok (.land, 1) := by decide +kernel
theorem d_J_bitCount_15 : decode b_J_bitCount 15 = .ok (.lload_n 0, 1) := by decide +kernel
theorem d_J_bitCount_16 : decode b_J_bitCount 16 = .ok (.iconst 2, 1) := by decide +kernel
theorem d_J_bitCount_17 : decode b_J_bitCount 17 = .ok (.lushr, 1) := by decide +kernel
theorem d_J_bitCount_18 : decode b_J_bitCount 18 = .ok (.ldc2_w 316, 3) := by decide +kernel
theorem d_J_bitCount_21 : decode b_J_bitCount 21 = .ok (.land, 1) := by decide +kernel
theorem d_J_bitCount_22 : decode b_J_bitCount 22 = .ok (.ladd, 1) := by decide +kernel
theorem d_J_bitCount_23 : decode b_J_bitCount 23 = .ok (.lstore_n 0, 1) := by decide +kernel
theorem d_J_bitCount_24 : decode b_J_bitCount 24 = .ok (.lload_n 0, 1) := by decide +kernel
theorem d_J_bitCount_25 : decode b_J_bitCount 25 = .ok (.lload_n 0, 1) := by decide +kernel
theorem d_J_bitCount_26 : decode b_J_bitCount 26 = .ok (.iconst 4, 1) := by decide +kernel
theorem d_J_bitCount_27 : decode b_J_bitCount 27 = .ok (.lushr, 1) := by decide +kernel
theorem d_J_bitCount_28 : decode b_J_bitCount 28 = .ok (.ladd, 1) := by decide +kernel
theorem d_J_bitCount_29 : decode b_J_bitCount 29 = .ok (.ldc2_w 318, 3) := by decide +kernel
theorem d_J_bitCount_32 : decode b_J_bitCount 32 = .ok (.land, 1) := by decide +kernel
theorem d_J_bitCount_33 : decode b_J_bitCount 33 = .ok (.lstore_n 0, 1) := by decide +kernel
theorem d_J_bitCount_34 : decode b_J_bitCount 34 = .ok (.lload_n 0, 1) := by decide +kernel
theorem d_J_bitCount_35 : decode b_J_bitCount 35 = .ok (.lload_n 0, 1) := by decide +kernel
theorem d_J_bitCount_36 : decode b_J_bitCount 36 = .ok (.bipush 8, 2) := by decide +kernel
theorem d_J_bitCount_38 : decode b_J_bitCount 38 = .ok (.lushr, 1) := by decide +kernel
theorem d_J_bitCount_39 : decode b_J_bitCount 39 = .ok (.ladd, 1) := by decide +kernel
theorem d_J_bitCount_40 : decode b_J_bitCount 40 = .ok (.lstore_n 0, 1) := by decide +kernel
theorem d_J_bitCount_41 : decode b_J_bitCount 41 = .ok (.lload_n 0, 1) := by decide +kernel
theorem d_J_bitCount_42 : decode b_J_bitCount 42 = .ok (.lload_n 0, 1) := by decide +kernel
theorem d_J_bitCount_43 : decode b_J_bitCount 43 = .ok (.bipush 16, 2) := by decide +kernel
theorem d_J_bitCount_45 : decode b_J_bitCount 45 = .ok (.lushr, 1) := by decide +kernel
theorem d_J_bitCount_46 : decode b_J_bitCount 46 = .ok (.ladd, 1) := by decide +kernel
theorem d_J_bitCount_47 : decode b_J_bitCount 47 = .ok (.lstore_n 0, 1) := by decide +kernel
theorem d_J_bitCount_48 : decode b_J_bitCount 48 = .ok (.lload_n 0, 1) := by decide +kernel
theorem d_J_bitCount_49 : decode b_J_bitCount 49 = .ok (.lload_n 0, 1) := by decide +kernel
theorem d_J_bitCount_50 : decode b_J_bitCount 50 = .ok (.bipush 32, 2) := by decide +kernel
theorem d_J_bitCount_52 : decode b_J_bitCount 52 = .ok (.lushr, 1) := by decide +kernel
theorem d_J_bitCount_53 : decode b_J_bitCount 53 = .ok (.ladd, 1) := by decide +kernel
theorem d_J_bitCount_54 : decode b_J_bitCount 54 = .ok (.lstore_n 0, 1) := by decide +kernel
theorem d_J_bitCount_55 : decode b_J_bitCount 55 = .ok (.lload_n 0, 1) := by decide +kernel
theorem d_J_bitCount_56 : decode b_J_bitCount 56 = .ok (.l2i, 1) := by decide +kernel
theorem d_J_bitCount_57 : decode b_J_bitCount 57 = .ok (.bipush 127, 2) := by decide +kernel
theorem d_J_bitCount_59 : decode b_J_bitCount 59 = .ok (.iand, 1) := by decide +kernel
theorem d_J_bitCount_60 : decode b_J_bitCount 60 = .ok (.ireturn, 1) := by decide +kernel
