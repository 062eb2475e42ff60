theorem d_M_init_0 : decode b_M_init 0 = .ok (.aload_n 0, 1) := by decide +kernel
theorem d_M_init_1 : decode b_M_init 1 = .ok (.invokespecial 3, 3) := by decide +kernel
theorem d_M_init_4 : decode b_M_init 4 = .ok (.aload_n 0, 1) := by decide +kernel
theorem d_M_init_5 : decode b_M_init 5 = .ok (.new 9, 3) := by decide +kernel
theorem d_M_init_8 : decode b_M_init 8 = .ok (.dup, 1) := by decide +kernel
theorem d_M_init_9 : decode b_M_init 9 = .ok (.invokespecial 11, 3) := by decide +kernel
theorem d_M_init_12 : decode b_M_init 12 = .ok (.putfield 12, 3) := by decide +kernel
theorem d_M_init_15 : decode b_M_init 15 = .ok (.aload_n 0, 1) := by decide +kernel
theorem d_M_init_16 : decode b_M_init 16 = .ok (.new 16, 3) := by decide +kernel
theorem d_M_init_19 : decode b_M_init 19 = .ok (.dup, 1) := by decide +kernel
theorem d_M_init_20 : decode b_M_init 20 = .ok (.invokespecial 18, 3) := by decide +kernel
theorem d_M_init_23 : decode b_M_init 23 = .ok (.putfield 19, 3) := by decide +kernel
theorem d_M_init_26 : decode b_M_init 26 = .ok (.aload_n 0, 1) := by decide +kernel
theorem d_M_init_27 : decode b_M_init 27 = .ok (.new 23, 3) := by decide +kernel
theorem d_M_init_30 : decode b_M_init 30 = .ok (.dup, 1) := by decide +kernel
theorem d_M_init_31 : decode b_M_init 31 = .ok (.invokespecial 25, 3) := by decide +kernel
theorem d_M_init_34 : decode b_M_init 34 = .ok (.putfield 26, 3) := by decide +kernel
theorem d_M_init_37 : decode b_M_init 37 = .ok (.aload_n 0, 1) := by decide +kernel
theorem d_M_init_38 : decode b_M_init 38 = .ok (.iconst 0, 1) := by decide +kernel
theorem d_M_init_39 : decode b_M_init 39 = .ok (.putfield 30, 3) := by decide +kernel
theorem d_M_init_42 : decode b_M_init 42 = .ok (.aload_n 0, 1) := by decide +kernel
theorem d_M_init_43 : decode b_M_init 43 = .ok (.iconst 0, 1) := by decide +kernel
theorem d_M_init_44 : decode b_M_init 44 = .ok (.putfield 34, 3) := by decide +kernel
theorem d_M_init_47 : decode b_M_init 47 = .ok (.return_, 1) := by decide +kernel
theorem d_M_bill_0 : decode b_M_bill 0 = .ok (.iload_n 1, 1) := by decide +kernel
theorem d_M_bill_1 : decode b_M_bill 1 = .ok (.invokestatic 37, 3) := by decide +kernel
theorem d_M_bill_4 : decode b_M_bill 4 = .ok (.ifCond .eq 10, 3) := by decide +kernel
theorem d_M_bill_7 : decode b_M_bill 7 = .ok (.iload_n 2, 1) := by decide +kernel
theorem d_M_bill_8 : decode b_M_bill 8 = .ok (.invokestatic 41, 3) := by decide +kernel
theorem d_M_bill_11 : decode b_M_bill 11 = .ok (.ifCond .ne 13, 3) := by decide +kernel
theorem d_M_bill_14 : decode b_M_bill 14 = .ok (.new 44, 3) := by decide +kernel
theorem d_M_bill_17 : decode b_M_bill 17 = .ok (.dup, 1) := by decide +kernel
theorem d_M_bill_18 : decode b_M_bill 18 = .ok (.ldc 46, 2) := by decide +kernel
theorem d_M_bill_20 : decode b_M_bill 20 = .ok (.invokespecial 48, 3) := by decide +kernel
theorem d_M_bill_23 : decode b_M_bill 23 = .ok (.athrow, 1) := by decide +kernel
theorem d_M_bill_24 : decode b_M_bill 24 = .ok (.aload_n 0, 1) := by decide +kernel
theorem d_M_bill_25 : decode b_M_bill 25 = .ok (.getfield 12, 3) := by decide +kernel
theorem d_M_bill_28 : decode b_M_bill 28 = .ok (.invokevirtual 51, 3) := by decide +kernel
theorem d_M_bill_31 : decode b_M_bill 31 = .ok (.ifCond .eq 13, 3) := by decide +kernel
theorem d_M_bill_34 : decode b_M_bill 34 = .ok (.new 55, 3) := by decide +kernel
theorem d_M_bill_37 : decode b_M_bill 37 = .ok (.dup, 1) := by decide +kernel
theorem d_M_bill_38 : decode b_M_bill 38 = .ok (.ldc 57, 2) := by decide +kernel
theorem d_M_bill_40 : decode b_M_bill 40 = .ok (.invokespecial 59, 3) := by decide +kernel
theorem d_M_bill_43 : decode b_M_bill 43 = .ok (.athrow, 1) := by decide +kernel
theorem d_M_bill_44 : decode b_M_bill 44 = .ok (.aload_n 0, 1) := by decide +kernel
theorem d_M_bill_45 : decode b_M_bill 45 = .ok (.getfield 12, 3) := by decide +kernel
theorem d_M_bill_48 : decode b_M_bill 48 = .ok (.iload_n 1, 1) := by decide +kernel
theorem d_M_bill_49 : decode b_M_bill 49 = .ok (.iload_n 3, 1) := by decide +kernel
theorem d_M_bill_50 : decode b_M_bill 50 = .ok (.invokevirtual 60, 3) := by decide +kernel
theorem d_M_bill_53 : decode b_M_bill 53 = .ok (.ifCond .eq 15, 3) := by decide +kernel
theorem d_M_bill_56 : decode b_M_bill 56 = .ok (.aload_n 0, 1) := by decide +kernel
theorem d_M_bill_57 : decode b_M_bill 57 = .ok (.getfield 12, 3) := by decide +kernel
theorem d_M_bill_60 : decode b_M_bill 60 = .ok (.iload_n 1, 1) := by decide +kernel
theorem d_M_bill_61 : decode b_M_bill 61 = .ok (.iload_n 2, 1) := by decide +kernel
theorem d_M_bill_62 : decode b_M_bill 62 = .ok (.invokevirtual 64, 3) := by decide +kernel
theorem d_M_bill_65 : decode b_M_bill 65 = .ok (.ifCond .eq 5, 3) := by decide +kernel
theorem d_M_bill_68 : decode b_M_bill 68 = .ok (.iconst (-1), 1) := by decide +kernel
theorem d_M_bill_69 : decode b_M_bill 69 = .ok (.ireturn, 1) := by decide +kernel
theorem d_M_bill_70 : decode b_M_bill 70 = .ok (.aload_n 0, 1) := by decide +kernel
theorem d_M_bill_71 : decode b_M_bill 71 = .ok (.getfield 12, 3) := by decide +kernel
theorem d_M_bill_74 : decode b_M_bill 74 = .ok (.iload_n 1, 1) := by decide +kernel
theorem d_M_bill_75 : decode b_M_bill 75 = .ok (.iload_n 2, 1) := by decide +kernel
theorem d_M_bill_76 : decode b_M_bill 76 = .ok (.iload_n 3, 1) := by decide +kernel
theorem d_M_bill_77 : decode b_M_bill 77 = .ok (.iconst 0, 1) := by decide +kernel
theorem d_M_bill_78 : decode b_M_bill 78 = .ok (.invokevirtual 67, 3) := by decide +kernel
theorem d_M_bill_81 : decode b_M_bill 81 = .ok (.ireturn, 1) := by decide +kernel
theorem d_M_line_0 : decode b_M_line 0 = .ok (.aload_n 0, 1) := by decide +kernel
theorem d_M_line_1 : decode b_M_line 1 = .ok (.getfield 12, 3) := by decide +kernel
theorem d_M_line_4 : decode b_M_line 4 = .ok (.iload_n 1, 1) := by decide +kernel
theorem d_M_line_5 : decode b_M_line 5 = .ok (.invokevirtual 71, 3) := by decide +kernel
theorem d_M_line_8 : decode b_M_line 8 = .ok (.ifCond .eq 21, 3) := by decide +kernel
theorem d_M_line_11 : decode b_M_line 11 = .ok (.iload_n 2, 1) := by decide +kernel
theorem d_M_line_12 : decode b_M_line 12 = .ok (.invokestatic 74, 3) := by decide +kernel
theorem d_M_line_15 : decode b_M_line 15 = .ok (.ifCond .eq 14, 3) := by decide +kernel
theorem d_M_line_18 : decode b_M_line 18 = .ok (.iload_n 3, 1) := by decide +kernel
theorem d_M_line_19 : decode b_M_line 19 = .ok (.ifCond .lt 10, 3) := by decide +kernel
theorem d_M_line_22 : decode b_M_line 22 = .ok (.iload_n 3, 1) := by decide +kernel
theorem d_M_line_23 : decode b_M_line 23 = .ok (.sipush 10000, 3) := by decide +kernel
theorem d_M_line_26 : decode b_M_line 26 = .ok (.if_icmp .le 13, 3) := by decide +kernel
theorem d_M_line_29 : decode b_M_line 29 = .ok (.new 44, 3) := by decide +kernel
theorem d_M_line_32 : decode b_M_line 32 = .ok (.dup, 1) := by decide +kernel
theorem d_M_line_33 : decode b_M_line 33 = .ok (.ldc 77, 2) := by decide +kernel
theorem d_M_line_35 : decode b_M_line 35 = .ok (.invokespecial 48, 3) := by decide +kernel
theorem d_M_line_38 : decode b_M_line 38 = .ok (.athrow, 1) := by decide +kernel
theorem d_M_line_39 : decode b_M_line 39 = .ok (.aload_n 0, 1) := by decide +kernel
theorem d_M_line_40 : decode b_M_line 40 = .ok (.getfield 19, 3) := by decide +kernel
theorem d_M_line_43 : decode b_M_line 43 = .ok (.invokevirtual 79, 3) := by decide +kernel
theorem d_M_line_46 : decode b_M_line 46 = .ok (.ifCond .eq 13, 3) := by decide +kernel
theorem d_M_line_49 : decode b_M_line 49 = .ok (.new 55, 3) := by decide +kernel
theorem d_M_line_52 : decode b_M_line 52 = .ok (.dup, 1) := by decide +kernel
theorem d_M_line_53 : decode b_M_line 53 = .ok (.ldc 80, 2) := by decide +kernel
theorem d_M_line_55 : decode b_M_line 55 = .ok (.invokespecial 59, 3) := by decide +kernel
theorem d_M_line_58 : decode b_M_line 58 = .ok (.athrow, 1) := by decide +kernel
theorem d_M_line_59 : decode b_M_line 59 = .ok (.aload_n 0, 1) := by decide +kernel
theorem d_M_line_60 : decode b_M_line 60 = .ok (.getfield 19, 3) := by decide +kernel
theorem d_M_line_63 : decode b_M_line 63 = .ok (.iload_n 1, 1) := by decide +kernel
theorem d_M_line_64 : decode b_M_line 64 = .ok (.iload_n 2, 1) := by decide +kernel
theorem d_M_line_65 : decode b_M_line 65 = .ok (.iload_n 3, 1) := by decide +kernel
theorem d_M_line_66 : decode b_M_line 66 = .ok (.invokevirtual 82, 3) := by decide +kernel
theorem d_M_line_69 : decode b_M_line 69 = .ok (.ireturn, 1) := by decide +kernel
theorem d_M_box_0 : decode b_M_box 0 = .ok (.iload_n 1, 1) := by decide +kernel
theorem d_M_box_1 : decode b_M_box 1 = .ok (.invokestatic 37, 3) := by decide +kernel
theorem d_M_box_4 : decode b_M_box 4 = .ok (.ifCond .eq 17, 3) := by decide +kernel
theorem d_M_box_7 : decode b_M_box 7 = .ok (.iload_n 2, 1) := by decide +kernel
theorem d_M_box_8 : decode b_M_box 8 = .ok (.invokestatic 41, 3) := by decide +kernel
theorem d_M_box_11 : decode b_M_box 11 = .ok (.ifCond .eq 10, 3) := by decide +kernel
theorem d_M_box_14 : decode b_M_box 14 = .ok (.iload_n 3, 1) := by decide +kernel
theorem d_M_box_15 : decode b_M_box 15 = .ok (.invokestatic 74, 3) := by decide +kernel
theorem d_M_box_18 : decode b_M_box 18 = .ok (.ifCond .ne 13, 3) := by decide +kernel
theorem d_M_box_21 : decode b_M_box 21 = .ok (.new 44, 3) := by decide +kernel
theorem d_M_box_24 : decode b_M_box 24 = .ok (.dup, 1) := by decide +kernel
theorem d_M_box_25 : decode b_M_box 25 = .ok (.ldc 85, 2) := by decide +kernel
theorem d_M_box_27 : decode b_M_box 27 = .ok (.invokespecial 48, 3) := by decide +kernel
theorem d_M_box_30 : decode b_M_box 30 = .ok (.athrow, 1) := by decide +kernel
theorem d_M_box_31 : decode b_M_box 31 = .ok (.aload_n 0, 1) := by decide +kernel
theorem d_M_box_32 : decode b_M_box 32 = .ok (.getfield 26, 3) := by decide +kernel
theorem d_M_box_35 : decode b_M_box 35 = .ok (.invokevirtual 87, 3) := by decide +kernel
theorem d_M_box_38 : decode b_M_box 38 = .ok (.ifCond .eq 13, 3) := by decide +kernel
theorem d_M_box_41 : decode b_M_box 41 = .ok (.new 55, 3) := by decide +kernel
theorem d_M_box_44 : decode b_M_box 44 = .ok (.dup, 1) := by decide +kernel
theorem d_M_box_45 : decode b_M_box 45 = .ok (.ldc 88, 2) := by decide +kernel
theorem d_M_box_47 : decode b_M_box 47 = .ok (.invokespecial 59, 3) := by decide +kernel
theorem d_M_box_50 : decode b_M_box 50 = .ok (.athrow, 1) := by decide +kernel
theorem d_M_box_51 : decode b_M_box 51 = .ok (.aload_n 0, 1) := by decide +kernel
theorem d_M_box_52 : decode b_M_box 52 = .ok (.getfield 26, 3) := by decide +kernel
theorem d_M_box_55 : decode b_M_box 55 = .ok (.iload_n 1, 1) := by decide +kernel
theorem d_M_box_56 : decode b_M_box 56 = .ok (.iload_n 2, 1) := by decide +kernel
theorem d_M_box_57 : decode b_M_box 57 = .ok (.invokevirtual 90, 3) := by decide +kernel
theorem d_M_box_60 : decode b_M_box 60 = .ok (.ifCond .eq 5, 3) := by decide +kernel
theorem d_M_box_63 : decode b_M_box 63 = .ok (.iconst (-1), 1) := by decide +kernel
theorem d_M_box_64 : decode b_M_box 64 = .ok (.ireturn, 1) := by decide +kernel
theorem d_M_box_65 : decode b_M_box 65 = .ok (.aload_n 0, 1) := by decide +kernel
theorem d_M_box_66 : decode b_M_box 66 = .ok (.getfield 26, 3) := by decide +kernel
theorem d_M_box_69 : decode b_M_box 69 = .ok (.iload_n 1, 1) := by decide +kernel
theorem d_M_box_70 : decode b_M_box 70 = .ok (.iload_n 2, 1) := by decide +kernel
theorem d_M_box_71 : decode b_M_box 71 = .ok (.iload_n 3, 1) := by decide +kernel
theorem d_M_box_72 : decode b_M_box 72 = .ok (.invokevirtual 91, 3) := by decide +kernel
theorem d_M_box_75 : decode b_M_box 75 = .ok (.ireturn, 1) := by decide +kernel
theorem d_M_on_0 : decode b_M_on 0 = .ok (.aload_n 0, 1) := by decide +kernel
theorem d_M_on_1 : decode b_M_on 1 = .ok (.getfield 26, 3) := by decide +kernel
theorem d_M_on_4 : decode b_M_on 4 = .ok (.iload_n 1, 1) := by decide +kernel
theorem d_M_on_5 : decode b_M_on 5 = .ok (.invokevirtual 92, 3) := by decide +kernel
theorem d_M_on_8 : decode b_M_on 8 = .ok (.ifCond .eq 35, 3) := by decide +kernel
theorem d_M_on_11 : decode b_M_on 11 = .ok (.aload_n 0, 1) := by decide +kernel
theorem d_M_on_12 : decode b_M_on 12 = .ok (.getfield 12, 3) := by decide +kernel
theorem d_M_on_15 : decode b_M_on 15 = .ok (.iload_n 2, 1) := by decide +kernel
theorem d_M_on_16 : decode b_M_on 16 = .ok (.invokevirtual 71, 3) := by decide +kernel
theorem d_M_on_19 : decode b_M_on 19 = .ok (.ifCond .eq 24, 3) := by decide +kernel
theorem d_M_on_22 : decode b_M_on 22 = .ok (.aload_n 0, 1) := by decide +kernel
theorem d_M_on_23 : decode b_M_on 23 = .ok (.getfield 26, 3) := by decide +kernel
theorem d_M_on_26 : decode b_M_on 26 = .ok (.getfield 93, 3) := by decide +kernel
theorem d_M_on_29 : decode b_M_on 29 = .ok (.iload_n 1, 1) := by decide +kernel
theorem d_M_on_30 : decode b_M_on 30 = .ok (.iaload, 1) := by decide +kernel
theorem d_M_on_31 : decode b_M_on 31 = .ok (.aload_n 0, 1) := by decide +kernel
theorem d_M_on_32 : decode b_M_on 32 = .ok (.getfield 12, 3) := by decide +kernel
theorem d_M_on_35 : decode b_M_on 35 = .ok (.getfield 97, 3) := by decide +kernel
theorem d_M_on_38 : decode b_M_on 38 = .ok (.iload_n 2, 1) := by decide +kernel
theorem d_M_on_39 : decode b_M_on 39 = .ok (.iaload, 1) := by decide +kernel
theorem d_M_on_40 : decode b_M_on 40 = .ok (.if_icmp .eq 5, 3) := by decide +kernel
theorem d_M_on_43 : decode b_M_on 43 = .ok (.iconst 0, 1) := by decide +kernel
theorem d_M_on_44 : decode b_M_on 44 = .ok (.ireturn, 1) := by decide +kernel
theorem d_M_on_45 : decode b_M_on 45 = .ok (.aload_n 0, 1) := by decide +kernel
theorem d_M_on_46 : decode b_M_on 46 = .ok (.getfield 26, 3) := by decide +kernel
theorem d_M_on_49 : decode b_M_on 49 = .ok (.iload_n 1, 1) := by decide +kernel
theorem d_M_on_50 : decode b_M_on 50 = .ok (.iload_n 2, 1) := by decide +kernel
theorem d_M_on_51 : decode b_M_on 51 = .ok (.invokevirtual 98, 3) := by decide +kernel
theorem d_M_on_54 : decode b_M_on 54 = .ok (.ifCond .ne 26, 3) := by decide +kernel
theorem d_M_on_57 : decode b_M_on 57 = .ok (.aload_n 0, 1) := by decide +kernel
theorem d_M_on_58 : decode b_M_on 58 = .ok (.getfield 26, 3) := by decide +kernel
theorem d_M_on_61 : decode b_M_on 61 = .ok (.iload_n 1, 1) := by decide +kernel
theorem d_M_on_62 : decode b_M_on 62 = .ok (.invokevirtual 101, 3) := by decide +kernel
theorem d_M_on_65 : decode b_M_on 65 = .ok (.iconst 4, 1) := by decide +kernel
theorem d_M_on_66 : decode b_M_on 66 = .ok (.if_icmp .ge 14, 3) := by decide +kernel
theorem d_M_on_69 : decode b_M_on 69 = .ok (.aload_n 0, 1) := by decide +kernel
theorem d_M_on_70 : decode b_M_on 70 = .ok (.getfield 26, 3) := by decide +kernel
theorem d_M_on_73 : decode b_M_on 73 = .ok (.iload_n 1, 1) := by decide +kernel
theorem d_M_on_74 : decode b_M_on 74 = .ok (.invokevirtual 105, 3) := by decide +kernel
theorem d_M_on_77 : decode b_M_on 77 = .ok (.ifCond .eq 5, 3) := by decide +kernel
theorem d_M_on_80 : decode b_M_on 80 = .ok (.iconst 0, 1) := by decide +kernel
theorem d_M_on_81 : decode b_M_on 81 = .ok (.ireturn, 1) := by decide +kernel
theorem d_M_on_82 : decode b_M_on 82 = .ok (.aload_n 0, 1) := by decide +kernel
theorem d_M_on_83 : decode b_M_on 83 = .ok (.getfield 26, 3) := by decide +kernel
theorem d_M_on_86 : decode b_M_on 86 = .ok (.iload_n 1, 1) := by decide +kernel
theorem d_M_on_87 : decode b_M_on 87 = .ok (.iload_n 2, 1) := by decide +kernel
theorem d_M_on_88 : decode b_M_on 88 = .ok (.invokevirtual 108, 3) := by decide +kernel
theorem d_M_on_91 : decode b_M_on 91 = .ok (.iconst 1, 1) := by decide +kernel
theorem d_M_on_92 : decode b_M_on 92 = .ok (.ireturn, 1) := by decide +kernel
theorem d_M_land_0 : decode b_M_land 0 = .ok (.aload_n 0, 1) := by decide +kernel
theorem d_M_land_1 : decode b_M_land 1 = .ok (.getfield 26, 3) := by decide +kernel
theorem d_M_land_4 : decode b_M_land 4 = .ok (.iload_n 1, 1) := by decide +kernel
theorem d_M_land_5 : decode b_M_land 5 = .ok (.invokevirtual 92, 3) := by decide +kernel
theorem d_M_land_8 : decode b_M_land 8 = .ok (.ifCond .eq 21, 3) := by decide +kernel
theorem d_M_land_11 : decode b_M_land 11 = .ok (.aload_n 0, 1) := by decide +kernel
theorem d_M_land_12 : decode b_M_land 12 = .ok (.getfield 26, 3) := by decide +kernel
theorem d_M_land_15 : decode b_M_land 15 = .ok (.iload_n 1, 1) := by decide +kernel
theorem d_M_land_16 : decode b_M_land 16 = .ok (.invokevirtual 112, 3) := by decide +kernel
theorem d_M_land_19 : decode b_M_land 19 = .ok (.ifCond .ne 10, 3) := by decide +kernel
theorem d_M_land_22 : decode b_M_land 22 = .ok (.iload_n 2, 1) := by decide +kernel
theorem d_M_land_23 : decode b_M_land 23 = .ok (.invokestatic 74, 3) := by decide +kernel
theorem d_M_land_26 : decode b_M_land 26 = .ok (.ifCond .ne 5, 3) := by decide +kernel
theorem d_M_land_29 : decode b_M_land 29 = .ok (.iconst 0, 1) := by decide +kernel
theorem d_M_land_30 : decode b_M_land 30 = .ok (.ireturn, 1) := by decide +kernel
theorem d_M_land_31 : decode b_M_land 31 = .ok (.aload_n 0, 1) := by decide +kernel
theorem d_M_land_32 : decode b_M_land 32 = .ok (.getfield 26, 3) := by decide +kernel
theorem d_M_land_35 : decode b_M_land 35 = .ok (.getfield 115, 3) := by decide +kernel
theorem d_M_land_38 : decode b_M_land 38 = .ok (.iload_n 1, 1) := by decide +kernel
theorem d_M_land_39 : decode b_M_land 39 = .ok (.iload_n 2, 1) := by decide +kernel
theorem d_M_land_40 : decode b_M_land 40 = .ok (.iastore, 1) := by decide +kernel
theorem d_M_land_41 : decode b_M_land 41 = .ok (.iconst 1, 1) := by decide +kernel
theorem d_M_land_42 : decode b_M_land 42 = .ok (.ireturn, 1) := by decide +kernel
theorem d_M_arrive_0 : decode b_M_arrive 0 = .ok (.iload_n 1, 1) := by decide +kernel
theorem d_M_arrive_1 : decode b_M_arrive 1 = .ok (.invokestatic 37, 3) := by decide +kernel
theorem d_M_arrive_4 : decode b_M_arrive 4 = .ok (.ifCond .eq 11, 3) := by decide +kernel
theorem d_M_arrive_7 : decode b_M_arrive 7 = .ok (.aload_n 0, 1) := by decide +kernel
theorem d_M_arrive_8 : decode b_M_arrive 8 = .ok (.iload_n 1, 1) := by decide +kernel
theorem d_M_arrive_9 : decode b_M_arrive 9 = .ok (.invokevirtual 118, 3) := by decide +kernel
theorem d_M_arrive_12 : decode b_M_arrive 12 = .ok (.ifCond .eq 5, 3) := by decide +kernel
theorem d_M_arrive_15 : decode b_M_arrive 15 = .ok (.iconst 0, 1) := by decide +kernel
theorem d_M_arrive_16 : decode b_M_arrive 16 = .ok (.ireturn, 1) := by decide +kernel
theorem d_M_arrive_17 : decode b_M_arrive 17 = .ok (.aload_n 0, 1) := by decide +kernel
theorem d_M_arrive_18 : decode b_M_arrive 18 = .ok (.dup, 1) := by decide +kernel
theorem d_M_arrive_19 : decode b_M_arrive 19 = .ok (.getfield 30, 3) := by decide +kernel
theorem d_M_arrive_22 : decode b_M_arrive 22 = .ok (.iconst 1, 1) := by decide +kernel
theorem d_M_arrive_23 : decode b_M_arrive 23 = .ok (.iload_n 1, 1) := by decide +kernel
theorem d_M_arrive_24 : decode b_M_arrive 24 = .ok (.ishl, 1) := by decide +kernel
theorem d_M_arrive_25 : decode b_M_arrive 25 = .ok (.ior, 1) := by decide +kernel
theorem d_M_arrive_26 : decode b_M_arrive 26 = .ok (.putfield 30, 3) := by decide +kernel
theorem d_M_arrive_29 : decode b_M_arrive 29 = .ok (.iconst 1, 1) := by decide +kernel
theorem d_M_arrive_30 : decode b_M_arrive 30 = .ok (.ireturn, 1) := by decide +kernel
theorem d_M_amend_0 : decode b_M_amend 0 = .ok (.aload_n 0, 1) := by decide +kernel
theorem d_M_amend_1 : decode b_M_amend 1 = .ok (.getfield 12, 3) := by decide +kernel
theorem d_M_amend_4 : decode b_M_amend 4 = .ok (.iload_n 1, 1) := by decide +kernel
theorem d_M_amend_5 : decode b_M_amend 5 = .ok (.invokevirtual 71, 3) := by decide +kernel
theorem d_M_amend_8 : decode b_M_amend 8 = .ok (.ifCond .eq 15, 3) := by decide +kernel
theorem d_M_amend_11 : decode b_M_amend 11 = .ok (.aload_n 0, 1) := by decide +kernel
theorem d_M_amend_12 : decode b_M_amend 12 = .ok (.getfield 19, 3) := by decide +kernel
theorem d_M_amend_15 : decode b_M_amend 15 = .ok (.iload_n 1, 1) := by decide +kernel
theorem d_M_amend_16 : decode b_M_amend 16 = .ok (.iload_n 2, 1) := by decide +kernel
theorem d_M_amend_17 : decode b_M_amend 17 = .ok (.invokevirtual 121, 3) := by decide +kernel
theorem d_M_amend_20 : decode b_M_amend 20 = .ok (.goto 4, 3) := by decide +kernel
theorem d_M_amend_23 : decode b_M_amend 23 = .ok (.iconst (-1), 1) := by decide +kernel
theorem d_M_amend_24 : decode b_M_amend 24 = .ok (.istore 4, 2) := by decide +kernel
theorem d_M_amend_26 : decode b_M_amend 26 = .ok (.iload 4, 2) := by decide +kernel
theorem d_M_amend_28 : decode b_M_amend 28 = .ok (.iconst (-1), 1) := by decide +kernel
theorem d_M_amend_29 : decode b_M_amend 29 = .ok (.if_icmp .eq 10, 3) := by decide +kernel
theorem d_M_amend_32 : decode b_M_amend 32 = .ok (.iload_n 3, 1) := by decide +kernel
theorem d_M_amend_33 : decode b_M_amend 33 = .ok (.invokestatic 74, 3) := by decide +kernel
theorem d_M_amend_36 : decode b_M_amend 36 = .ok (.ifCond .ne 13, 3) := by decide +kernel
theorem d_M_amend_39 : decode b_M_amend 39 = .ok (.new 44, 3) := by decide +kernel
theorem d_M_amend_42 : decode b_M_amend 42 = .ok (.dup, 1) := by decide +kernel
theorem d_M_amend_43 : decode b_M_amend 43 = .ok (.ldc 125, 2) := by decide +kernel
theorem d_M_amend_45 : decode b_M_amend 45 = .ok (.invokespecial 48, 3) := by decide +kernel
theorem d_M_amend_48 : decode b_M_amend 48 = .ok (.athrow, 1) := by decide +kernel
theorem d_M_amend_49 : decode b_M_amend 49 = .ok (.aload_n 0, 1) := by decide +kernel
theorem d_M_amend_50 : decode b_M_amend 50 = .ok (.getfield 19, 3) := by decide +kernel
theorem d_M_amend_53 : decode b_M_amend 53 = .ok (.iload 4, 2) := by decide +kernel
theorem d_M_amend_55 : decode b_M_amend 55 = .ok (.iload_n 3, 1) := by decide +kernel
theorem d_M_amend_56 : decode b_M_amend 56 = .ok (.invokevirtual 127, 3) := by decide +kernel
theorem d_M_amend_59 : decode b_M_amend 59 = .ok (.istore 5, 2) := by decide +kernel
theorem d_M_amend_61 : decode b_M_amend 61 = .ok (.iload 5, 2) := by decide +kernel
theorem d_M_amend_63 : decode b_M_amend 63 = .ok (.ifCond .eq 19, 3) := by decide +kernel
theorem d_M_amend_66 : decode b_M_amend 66 = .ok (.aload_n 0, 1) := by decide +kernel
theorem d_M_amend_67 : decode b_M_amend 67 = .ok (.aload_n 0, 1) := by decide +kernel
theorem d_M_amend_68 : decode b_M_amend 68 = .ok (.getfield 12, 3) := by decide +kernel
theorem d_M_amend_71 : decode b_M_amend 71 = .ok (.getfield 97, 3) := by decide +kernel
theorem d_M_amend_74 : decode b_M_amend 74 = .ok (.iload_n 1, 1) := by decide +kernel
theorem d_M_amend_75 : decode b_M_amend 75 = .ok (.iaload, 1) := by decide +kernel
theorem d_M_amend_76 : decode b_M_amend 76 = .ok (.invokevirtual 118, 3) := by decide +kernel
theorem d_M_amend_79 : decode b_M_amend 79 = .ok (.ifCond .ne 5, 3) := by decide +kernel
theorem d_M_amend_82 : decode b_M_amend 82 = .ok (.iconst 0, 1) := by decide +kernel
theorem d_M_amend_83 : decode b_M_amend 83 = .ok (.ireturn, 1) := by decide +kernel
theorem d_M_amend_84 : decode b_M_amend 84 = .ok (.bipush 100, 2) := by decide +kernel
theorem d_M_amend_86 : decode b_M_amend 86 = .ok (.iload 5, 2) := by decide +kernel
theorem d_M_amend_88 : decode b_M_amend 88 = .ok (.invokestatic 130, 3) := by decide +kernel
theorem d_M_amend_91 : decode b_M_amend 91 = .ok (.sipush 1000, 3) := by decide +kernel
theorem d_M_amend_94 : decode b_M_amend 94 = .ok (.idiv, 1) := by decide +kernel
theorem d_M_amend_95 : decode b_M_amend 95 = .ok (.iadd, 1) := by decide +kernel
theorem d_M_amend_96 : decode b_M_amend 96 = .ok (.istore 6, 2) := by decide +kernel
theorem d_M_amend_98 : decode b_M_amend 98 = .ok (.aload_n 0, 1) := by decide +kernel
theorem d_M_amend_99 : decode b_M_amend 99 = .ok (.dup, 1) := by decide +kernel
theorem d_M_amend_100 : decode b_M_amend 100 = .ok (.getfield 34, 3) := by decide +kernel
theorem d_M_amend_103 : decode b_M_amend 103 = .ok (.iload 6, 2) := by decide +kernel
theorem d_M_amend_105 : decode b_M_amend 105 = .ok (.iadd, 1) := by decide +kernel
theorem d_M_amend_106 : decode b_M_amend 106 = .ok (.putfield 34, 3) := by decide +kernel
theorem d_M_amend_109 : decode b_M_amend 109 = .ok (.iload 6, 2) := by decide +kernel
theorem d_M_amend_111 : decode b_M_amend 111 = .ok (.ireturn, 1) := by decide +kernel
theorem d_M_title_0 : decode b_M_title 0 = .ok (.aload_n 0, 1) := by decide +kernel
theorem d_M_title_1 : decode b_M_title 1 = .ok (.getfield 12, 3) := by decide +kernel
theorem d_M_title_4 : decode b_M_title 4 = .ok (.iload_n 1, 1) := by decide +kernel
theorem d_M_title_5 : decode b_M_title 5 = .ok (.invokevirtual 71, 3) := by decide +kernel
theorem d_M_title_8 : decode b_M_title 8 = .ok (.ifCond .eq 22, 3) := by decide +kernel
theorem d_M_title_11 : decode b_M_title 11 = .ok (.iload_n 2, 1) := by decide +kernel
theorem d_M_title_12 : decode b_M_title 12 = .ok (.invokestatic 135, 3) := by decide +kernel
theorem d_M_title_15 : decode b_M_title 15 = .ok (.ifCond .eq 15, 3) := by decide +kernel
theorem d_M_title_18 : decode b_M_title 18 = .ok (.iload_n 3, 1) := by decide +kernel
theorem d_M_title_19 : decode b_M_title 19 = .ok (.invokestatic 135, 3) := by decide +kernel
theorem d_M_title_22 : decode b_M_title 22 = .ok (.ifCond .eq 8, 3) := by decide +kernel
theorem d_M_title_25 : decode b_M_title 25 = .ok (.iload_n 2, 1) := by decide +kernel
theorem d_M_title_26 : decode b_M_title 26 = .ok (.iload_n 3, 1) := by decide +kernel
theorem d_M_title_27 : decode b_M_title 27 = .ok (.if_icmp .ne 13, 3) := by decide +kernel
theorem d_M_title_30 : decode b_M_title 30 = .ok (.new 44, 3) := by decide +kernel
theorem d_M_title_33 : decode b_M_title 33 = .ok (.dup, 1) := by decide +kernel
theorem d_M_title_34 : decode b_M_title 34 = .ok (.ldc 138, 2) := by decide +kernel
theorem d_M_title_36 : decode b_M_title 36 = .ok (.invokespecial 48, 3) := by decide +kernel
theorem d_M_title_39 : decode b_M_title 39 = .ok (.athrow, 1) := by decide +kernel
theorem d_M_title_40 : decode b_M_title 40 = .ok (.aload_n 0, 1) := by decide +kernel
theorem d_M_title_41 : decode b_M_title 41 = .ok (.getfield 12, 3) := by decide +kernel
theorem d_M_title_44 : decode b_M_title 44 = .ok (.getfield 140, 3) := by decide +kernel
theorem d_M_title_47 : decode b_M_title 47 = .ok (.iload_n 1, 1) := by decide +kernel
theorem d_M_title_48 : decode b_M_title 48 = .ok (.iaload, 1) := by decide +kernel
theorem d_M_title_49 : decode b_M_title 49 = .ok (.iload_n 2, 1) := by decide +kernel
theorem d_M_title_50 : decode b_M_title 50 = .ok (.if_icmp .ne 14, 3) := by decide +kernel
theorem d_M_title_53 : decode b_M_title 53 = .ok (.aload_n 0, 1) := by decide +kernel
theorem d_M_title_54 : decode b_M_title 54 = .ok (.getfield 12, 3) := by decide +kernel
theorem d_M_title_57 : decode b_M_title 57 = .ok (.iload_n 1, 1) := by decide +kernel
theorem d_M_title_58 : decode b_M_title 58 = .ok (.invokevirtual 143, 3) := by decide +kernel
theorem d_M_title_61 : decode b_M_title 61 = .ok (.ifCond .eq 5, 3) := by decide +kernel
theorem d_M_title_64 : decode b_M_title 64 = .ok (.iconst 0, 1) := by decide +kernel
theorem d_M_title_65 : decode b_M_title 65 = .ok (.ireturn, 1) := by decide +kernel
theorem d_M_title_66 : decode b_M_title 66 = .ok (.aload_n 0, 1) := by decide +kernel
theorem d_M_title_67 : decode b_M_title 67 = .ok (.getfield 12, 3) := by decide +kernel
theorem d_M_title_70 : decode b_M_title 70 = .ok (.getfield 140, 3) := by decide +kernel
theorem d_M_title_73 : decode b_M_title 73 = .ok (.iload_n 1, 1) := by decide +kernel
theorem d_M_title_74 : decode b_M_title 74 = .ok (.iload_n 3, 1) := by decide +kernel
theorem d_M_title_75 : decode b_M_title 75 = .ok (.iastore, 1) := by decide +kernel
theorem d_M_title_76 : decode b_M_title 76 = .ok (.iconst 1, 1) := by decide +kernel
theorem d_M_title_77 : decode b_M_title 77 = .ok (.ireturn, 1) := by decide +kernel
theorem d_M_order_0 : decode b_M_order 0 = .ok (.aload_n 0, 1) := by decide +kernel
theorem d_M_order_1 : decode b_M_order 1 = .ok (.getfield 12, 3) := by decide +kernel
theorem d_M_order_4 : decode b_M_order 4 = .ok (.iload_n 1, 1) := by decide +kernel
theorem d_M_order_5 : decode b_M_order 5 = .ok (.invokevirtual 71, 3) := by decide +kernel
theorem d_M_order_8 : decode b_M_order 8 = .ok (.ifCond .eq 21, 3) := by decide +kernel
theorem d_M_order_11 : decode b_M_order 11 = .ok (.aload_n 0, 1) := by decide +kernel
theorem d_M_order_12 : decode b_M_order 12 = .ok (.getfield 26, 3) := by decide +kernel
theorem d_M_order_15 : decode b_M_order 15 = .ok (.iload_n 2, 1) := by decide +kernel
theorem d_M_order_16 : decode b_M_order 16 = .ok (.invokevirtual 92, 3) := by decide +kernel
theorem d_M_order_19 : decode b_M_order 19 = .ok (.ifCond .eq 10, 3) := by decide +kernel
theorem d_M_order_22 : decode b_M_order 22 = .ok (.iload_n 3, 1) := by decide +kernel
theorem d_M_order_23 : decode b_M_order 23 = .ok (.invokestatic 135, 3) := by decide +kernel
theorem d_M_order_26 : decode b_M_order 26 = .ok (.ifCond .ne 13, 3) := by decide +kernel
theorem d_M_order_29 : decode b_M_order 29 = .ok (.new 44, 3) := by decide +kernel
theorem d_M_order_32 : decode b_M_order 32 = .ok (.dup, 1) := by decide +kernel
theorem d_M_order_33 : decode b_M_order 33 = .ok (.ldc 144, 2) := by decide +kernel
theorem d_M_order_35 : decode b_M_order 35 = .ok (.invokespecial 48, 3) := by decide +kernel
theorem d_M_order_38 : decode b_M_order 38 = .ok (.athrow, 1) := by decide +kernel
theorem d_M_order_39 : decode b_M_order 39 = .ok (.aload_n 0, 1) := by decide +kernel
theorem d_M_order_40 : decode b_M_order 40 = .ok (.getfield 26, 3) := by decide +kernel
theorem d_M_order_43 : decode b_M_order 43 = .ok (.iload_n 2, 1) := by decide +kernel
theorem d_M_order_44 : decode b_M_order 44 = .ok (.invokevirtual 105, 3) := by decide +kernel
theorem d_M_order_47 : decode b_M_order 47 = .ok (.ifCond .ne 26, 3) := by decide +kernel
theorem d_M_order_50 : decode b_M_order 50 = .ok (.aload_n 0, 1) := by decide +kernel
theorem d_M_order_51 : decode b_M_order 51 = .ok (.getfield 26, 3) := by decide +kernel
theorem d_M_order_54 : decode b_M_order 54 = .ok (.iload_n 2, 1) := by decide +kernel
theorem d_M_order_55 : decode b_M_order 55 = .ok (.iload_n 1, 1) := by decide +kernel
theorem d_M_order_56 : decode b_M_order 56 = .ok (.invokevirtual 98, 3) := by decide +kernel
theorem d_M_order_59 : decode b_M_order 59 = .ok (.ifCond .eq 14, 3) := by decide +kernel
theorem d_M_order_62 : decode b_M_order 62 = .ok (.aload_n 0, 1) := by decide +kernel
theorem d_M_order_63 : decode b_M_order 63 = .ok (.getfield 26, 3) := by decide +kernel
theorem d_M_order_66 : decode b_M_order 66 = .ok (.iload_n 2, 1) := by decide +kernel
theorem d_M_order_67 : decode b_M_order 67 = .ok (.invokevirtual 112, 3) := by decide +kernel
theorem d_M_order_70 : decode b_M_order 70 = .ok (.ifCond .ne 5, 3) := by decide +kernel
theorem d_M_order_73 : decode b_M_order 73 = .ok (.iconst 0, 1) := by decide +kernel
theorem d_M_order_74 : decode b_M_order 74 = .ok (.ireturn, 1) := by decide +kernel
theorem d_M_order_75 : decode b_M_order 75 = .ok (.aload_n 0, 1) := by decide +kernel
theorem d_M_order_76 : decode b_M_order 76 = .ok (.getfield 12, 3) := by decide +kernel
theorem d_M_order_79 : decode b_M_order 79 = .ok (.getfield 140, 3) := by decide +kernel
theorem d_M_order_82 : decode b_M_order 82 = .ok (.iload_n 1, 1) := by decide +kernel
theorem d_M_order_83 : decode b_M_order 83 = .ok (.iaload, 1) := by decide +kernel
theorem d_M_order_84 : decode b_M_order 84 = .ok (.iload_n 3, 1) := by decide +kernel
theorem d_M_order_85 : decode b_M_order 85 = .ok (.if_icmp .eq 5, 3) := by decide +kernel
theorem d_M_order_88 : decode b_M_order 88 = .ok (.iconst 0, 1) := by decide +kernel
theorem d_M_order_89 : decode b_M_order 89 = .ok (.ireturn, 1) := by decide +kernel
theorem d_M_order_90 : decode b_M_order 90 = .ok (.aload_n 0, 1) := by decide +kernel
theorem d_M_order_91 : decode b_M_order 91 = .ok (.getfield 26, 3) := by decide +kernel
theorem d_M_order_94 : decode b_M_order 94 = .ok (.getfield 146, 3) := by decide +kernel
theorem d_M_order_97 : decode b_M_order 97 = .ok (.iload_n 2, 1) := by decide +kernel
theorem d_M_order_98 : decode b_M_order 98 = .ok (.iload_n 1, 1) := by decide +kernel
theorem d_M_order_99 : decode b_M_order 99 = .ok (.iastore, 1) := by decide +kernel
theorem d_M_order_100 : decode b_M_order 100 = .ok (.aload_n 0, 1) := by decide +kernel
theorem d_M_order_101 : decode b_M_order 101 = .ok (.getfield 12, 3) := by decide +kernel
theorem d_M_order_104 : decode b_M_order 104 = .ok (.getfield 149, 3) := by decide +kernel
theorem d_M_order_107 : decode b_M_order 107 = .ok (.iload_n 1, 1) := by decide +kernel
theorem d_M_order_108 : decode b_M_order 108 = .ok (.dup2, 1) := by decide +kernel
theorem d_M_order_109 : decode b_M_order 109 = .ok (.iaload, 1) := by decide +kernel
theorem d_M_order_110 : decode b_M_order 110 = .ok (.iconst 1, 1) := by decide +kernel
theorem d_M_order_111 : decode b_M_order 111 = .ok (.iadd, 1) := by decide +kernel
theorem d_M_order_112 : decode b_M_order 112 = .ok (.iastore, 1) := by decide +kernel
theorem d_M_order_113 : decode b_M_order 113 = .ok (.iconst 1, 1) := by decide +kernel
theorem d_M_order_114 : decode b_M_order 114 = .ok (.ireturn, 1) := by decide +kernel
theorem d_M_split_0 : decode b_M_split 0 = .ok (.aload_n 0, 1) := by decide +kernel
theorem d_M_split_1 : decode b_M_split 1 = .ok (.getfield 12, 3) := by decide +kernel
theorem d_M_split_4 : decode b_M_split 4 = .ok (.iload_n 1, 1) := by decide +kernel
theorem d_M_split_5 : decode b_M_split 5 = .ok (.invokevirtual 71, 3) := by decide +kernel
theorem d_M_split_8 : decode b_M_split 8 = .ok (.ifCond .eq 8, 3) := by decide +kernel
theorem d_M_split_11 : decode b_M_split 11 = .ok (.iload_n 2, 1) := by decide +kernel
theorem d_M_split_12 : decode b_M_split 12 = .ok (.iconst 1, 1) := by decide +kernel
theorem d_M_split_13 : decode b_M_split 13 = .ok (.if_icmp .ge 13, 3) := by decide +kernel
theorem d_M_split_16 : decode b_M_split 16 = .ok (.new 44, 3) := by decide +kernel
theorem d_M_split_19 : decode b_M_split 19 = .ok (.dup, 1) := by decide +kernel
theorem d_M_split_20 : decode b_M_split 20 = .ok (.ldc 152, 2) := by decide +kernel
theorem d_M_split_22 : decode b_M_split 22 = .ok (.invokespecial 48, 3) := by decide +kernel
theorem d_M_split_25 : decode b_M_split 25 = .ok (.athrow, 1) := by decide +kernel
theorem d_M_split_26 : decode b_M_split 26 = .ok (.aload_n 0, 1) := by decide +kernel
theorem d_M_split_27 : decode b_M_split 27 = .ok (.getfield 12, 3) := by decide +kernel
theorem d_M_split_30 : decode b_M_split 30 = .ok (.invokevirtual 51, 3) := by decide +kernel
theorem d_M_split_33 : decode b_M_split 33 = .ok (.ifCond .ne 13, 3) := by decide +kernel
theorem d_M_split_36 : decode b_M_split 36 = .ok (.aload_n 0, 1) := by decide +kernel
theorem d_M_split_37 : decode b_M_split 37 = .ok (.getfield 19, 3) := by decide +kernel
theorem d_M_split_40 : decode b_M_split 40 = .ok (.invokevirtual 79, 3) := by decide +kernel
theorem d_M_split_43 : decode b_M_split 43 = .ok (.ifCond .eq 13, 3) := by decide +kernel
theorem d_M_split_46 : decode b_M_split 46 = .ok (.new 55, 3) := by decide +kernel
theorem d_M_split_49 : decode b_M_split 49 = .ok (.dup, 1) := by decide +kernel
theorem d_M_split_50 : decode b_M_split 50 = .ok (.ldc 154, 2) := by decide +kernel
theorem d_M_split_52 : decode b_M_split 52 = .ok (.invokespecial 59, 3) := by decide +kernel
theorem d_M_split_55 : decode b_M_split 55 = .ok (.athrow, 1) := by decide +kernel
theorem d_M_split_56 : decode b_M_split 56 = .ok (.iload_n 2, 1) := by decide +kernel
theorem d_M_split_57 : decode b_M_split 57 = .ok (.aload_n 0, 1) := by decide +kernel
theorem d_M_split_58 : decode b_M_split 58 = .ok (.getfield 19, 3) := by decide +kernel
theorem d_M_split_61 : decode b_M_split 61 = .ok (.getfield 156, 3) := by decide +kernel
theorem d_M_split_64 : decode b_M_split 64 = .ok (.iload_n 1, 1) := by decide +kernel
theorem d_M_split_65 : decode b_M_split 65 = .ok (.iaload, 1) := by decide +kernel
theorem d_M_split_66 : decode b_M_split 66 = .ok (.if_icmp .ge 25, 3) := by decide +kernel
theorem d_M_split_69 : decode b_M_split 69 = .ok (.aload_n 0, 1) := by decide +kernel
theorem d_M_split_70 : decode b_M_split 70 = .ok (.getfield 12, 3) := by decide +kernel
theorem d_M_split_73 : decode b_M_split 73 = .ok (.iload_n 1, 1) := by decide +kernel
theorem d_M_split_74 : decode b_M_split 74 = .ok (.invokevirtual 159, 3) := by decide +kernel
theorem d_M_split_77 : decode b_M_split 77 = .ok (.ifCond .gt 14, 3) := by decide +kernel
theorem d_M_split_80 : decode b_M_split 80 = .ok (.aload_n 0, 1) := by decide +kernel
theorem d_M_split_81 : decode b_M_split 81 = .ok (.getfield 12, 3) := by decide +kernel
theorem d_M_split_84 : decode b_M_split 84 = .ok (.iload_n 1, 1) := by decide +kernel
theorem d_M_split_85 : decode b_M_split 85 = .ok (.invokevirtual 143, 3) := by decide +kernel
theorem d_M_split_88 : decode b_M_split 88 = .ok (.ifCond .eq 5, 3) := by decide +kernel
theorem d_M_split_91 : decode b_M_split 91 = .ok (.iconst (-1), 1) := by decide +kernel
theorem d_M_split_92 : decode b_M_split 92 = .ok (.ireturn, 1) := by decide +kernel
theorem d_M_split_93 : decode b_M_split 93 = .ok (.aload_n 0, 1) := by decide +kernel
theorem d_M_split_94 : decode b_M_split 94 = .ok (.getfield 12, 3) := by decide +kernel
theorem d_M_split_97 : decode b_M_split 97 = .ok (.iload_n 1, 1) := by decide +kernel
theorem d_M_split_98 : decode b_M_split 98 = .ok (.invokevirtual 162, 3) := by decide +kernel
theorem d_M_split_101 : decode b_M_split 101 = .ok (.istore_n 3, 1) := by decide +kernel
theorem d_M_split_102 : decode b_M_split 102 = .ok (.iload_n 3, 1) := by decide +kernel
theorem d_M_split_103 : decode b_M_split 103 = .ok (.iconst (-1), 1) := by decide +kernel
theorem d_M_split_104 : decode b_M_split 104 = .ok (.if_icmp .ne 5, 3) := by decide +kernel
theorem d_M_split_107 : decode b_M_split 107 = .ok (.iconst (-1), 1) := by decide +kernel
theorem d_M_split_108 : decode b_M_split 108 = .ok (.ireturn, 1) := by decide +kernel
theorem d_M_split_109 : decode b_M_split 109 = .ok (.aload_n 0, 1) := by decide +kernel
theorem d_M_split_110 : decode b_M_split 110 = .ok (.getfield 19, 3) := by decide +kernel
theorem d_M_split_113 : decode b_M_split 113 = .ok (.iload_n 1, 1) := by decide +kernel
theorem d_M_split_114 : decode b_M_split 114 = .ok (.iload_n 2, 1) := by decide +kernel
theorem d_M_split_115 : decode b_M_split 115 = .ok (.invokevirtual 165, 3) := by decide +kernel
theorem d_M_split_118 : decode b_M_split 118 = .ok (.aload_n 0, 1) := by decide +kernel
theorem d_M_split_119 : decode b_M_split 119 = .ok (.getfield 12, 3) := by decide +kernel
theorem d_M_split_122 : decode b_M_split 122 = .ok (.aload_n 0, 1) := by decide +kernel
theorem d_M_split_123 : decode b_M_split 123 = .ok (.getfield 12, 3) := by decide +kernel
theorem d_M_split_126 : decode b_M_split 126 = .ok (.getfield 97, 3) := by decide +kernel
theorem d_M_split_129 : decode b_M_split 129 = .ok (.iload_n 1, 1) := by decide +kernel
theorem d_M_split_130 : decode b_M_split 130 = .ok (.iaload, 1) := by decide +kernel
theorem d_M_split_131 : decode b_M_split 131 = .ok (.iload_n 3, 1) := by decide +kernel
theorem d_M_split_132 : decode b_M_split 132 = .ok (.aload_n 0, 1) := by decide +kernel
theorem d_M_split_133 : decode b_M_split 133 = .ok (.getfield 12, 3) := by decide +kernel
theorem d_M_split_136 : decode b_M_split 136 = .ok (.getfield 168, 3) := by decide +kernel
theorem d_M_split_139 : decode b_M_split 139 = .ok (.iload_n 1, 1) := by decide +kernel
theorem d_M_split_140 : decode b_M_split 140 = .ok (.iaload, 1) := by decide +kernel
theorem d_M_split_141 : decode b_M_split 141 = .ok (.aload_n 0, 1) := by decide +kernel
theorem d_M_split_142 : decode b_M_split 142 = .ok (.getfield 12, 3) := by decide +kernel
theorem d_M_split_145 : decode b_M_split 145 = .ok (.getfield 140, 3) := by decide +kernel
theorem d_M_split_148 : decode b_M_split 148 = .ok (.iload_n 1, 1) := by decide +kernel
theorem d_M_split_149 : decode b_M_split 149 = .ok (.iaload, 1) := by decide +kernel
theorem d_M_split_150 : decode b_M_split 150 = .ok (.invokevirtual 67, 3) := by decide +kernel
theorem d_M_split_153 : decode b_M_split 153 = .ok (.istore 4, 2) := by decide +kernel
theorem d_M_split_155 : decode b_M_split 155 = .ok (.aload_n 0, 1) := by decide +kernel
theorem d_M_split_156 : decode b_M_split 156 = .ok (.getfield 19, 3) := by decide +kernel
theorem d_M_split_159 : decode b_M_split 159 = .ok (.iload 4, 2) := by decide +kernel
theorem d_M_split_161 : decode b_M_split 161 = .ok (.iload_n 2, 1) := by decide +kernel
theorem d_M_split_162 : decode b_M_split 162 = .ok (.iconst 0, 1) := by decide +kernel
theorem d_M_split_163 : decode b_M_split 163 = .ok (.invokevirtual 82, 3) := by decide +kernel
theorem d_M_split_166 : decode b_M_split 166 = .ok (.pop, 1) := by decide +kernel
theorem d_M_split_167 : decode b_M_split 167 = .ok (.iload 4, 2) := by decide +kernel
theorem d_M_split_169 : decode b_M_split 169 = .ok (.ireturn, 1) := by decide +kernel
theorem d_M_leg_0 : decode b_M_leg 0 = .ok (.aload_n 0, 1) := by decide +kernel
theorem d_M_leg_1 : decode b_M_leg 1 = .ok (.getfield 26, 3) := by decide +kernel
theorem d_M_leg_4 : decode b_M_leg 4 = .ok (.iload_n 1, 1) := by decide +kernel
theorem d_M_leg_5 : decode b_M_leg 5 = .ok (.invokevirtual 92, 3) := by decide +kernel
theorem d_M_leg_8 : decode b_M_leg 8 = .ok (.ifCond .eq 35, 3) := by decide +kernel
theorem d_M_leg_11 : decode b_M_leg 11 = .ok (.aload_n 0, 1) := by decide +kernel
theorem d_M_leg_12 : decode b_M_leg 12 = .ok (.getfield 26, 3) := by decide +kernel
theorem d_M_leg_15 : decode b_M_leg 15 = .ok (.iload_n 2, 1) := by decide +kernel
theorem d_M_leg_16 : decode b_M_leg 16 = .ok (.invokevirtual 92, 3) := by decide +kernel
theorem d_M_leg_19 : decode b_M_leg 19 = .ok (.ifCond .eq 24, 3) := by decide +kernel
theorem d_M_leg_22 : decode b_M_leg 22 = .ok (.aload_n 0, 1) := by decide +kernel
theorem d_M_leg_23 : decode b_M_leg 23 = .ok (.getfield 26, 3) := by decide +kernel
theorem d_M_leg_26 : decode b_M_leg 26 = .ok (.getfield 93, 3) := by decide +kernel
theorem d_M_leg_29 : decode b_M_leg 29 = .ok (.iload_n 1, 1) := by decide +kernel
theorem d_M_leg_30 : decode b_M_leg 30 = .ok (.iaload, 1) := by decide +kernel
theorem d_M_leg_31 : decode b_M_leg 31 = .ok (.aload_n 0, 1) := by decide +kernel
theorem d_M_leg_32 : decode b_M_leg 32 = .ok (.getfield 26, 3) := by decide +kernel
theorem d_M_leg_35 : decode b_M_leg 35 = .ok (.getfield 93, 3) := by decide +kernel
theorem d_M_leg_38 : decode b_M_leg 38 = .ok (.iload_n 2, 1) := by decide +kernel
theorem d_M_leg_39 : decode b_M_leg 39 = .ok (.iaload, 1) := by decide +kernel
theorem d_M_leg_40 : decode b_M_leg 40 = .ok (.if_icmp .ne 5, 3) := by decide +kernel
theorem d_M_leg_43 : decode b_M_leg 43 = .ok (.iconst 0, 1) := by decide +kernel
theorem d_M_leg_44 : decode b_M_leg 44 = .ok (.ireturn, 1) := by decide +kernel
theorem d_M_leg_45 : decode b_M_leg 45 = .ok (.aload_n 0, 1) := by decide +kernel
theorem d_M_leg_46 : decode b_M_leg 46 = .ok (.getfield 26, 3) := by decide +kernel
theorem d_M_leg_49 : decode b_M_leg 49 = .ok (.getfield 171, 3) := by decide +kernel
theorem d_M_leg_52 : decode b_M_leg 52 = .ok (.iload_n 1, 1) := by decide +kernel
theorem d_M_leg_53 : decode b_M_leg 53 = .ok (.iaload, 1) := by decide +kernel
theorem d_M_leg_54 : decode b_M_leg 54 = .ok (.iconst (-1), 1) := by decide +kernel
theorem d_M_leg_55 : decode b_M_leg 55 = .ok (.if_icmp .ne 28, 3) := by decide +kernel
theorem d_M_leg_58 : decode b_M_leg 58 = .ok (.aload_n 0, 1) := by decide +kernel
theorem d_M_leg_59 : decode b_M_leg 59 = .ok (.getfield 26, 3) := by decide +kernel
theorem d_M_leg_62 : decode b_M_leg 62 = .ok (.getfield 174, 3) := by decide +kernel
theorem d_M_leg_65 : decode b_M_leg 65 = .ok (.iload_n 2, 1) := by decide +kernel
theorem d_M_leg_66 : decode b_M_leg 66 = .ok (.iaload, 1) := by decide +kernel
theorem d_M_leg_67 : decode b_M_leg 67 = .ok (.iconst (-1), 1) := by decide +kernel
theorem d_M_leg_68 : decode b_M_leg 68 = .ok (.if_icmp .ne 15, 3) := by decide +kernel
theorem d_M_leg_71 : decode b_M_leg 71 = .ok (.aload_n 0, 1) := by decide +kernel
theorem d_M_leg_72 : decode b_M_leg 72 = .ok (.getfield 26, 3) := by decide +kernel
theorem d_M_leg_75 : decode b_M_leg 75 = .ok (.iload_n 1, 1) := by decide +kernel
theorem d_M_leg_76 : decode b_M_leg 76 = .ok (.invokevirtual 177, 3) := by decide +kernel
theorem d_M_leg_79 : decode b_M_leg 79 = .ok (.iload_n 2, 1) := by decide +kernel
theorem d_M_leg_80 : decode b_M_leg 80 = .ok (.if_icmp .ne 5, 3) := by decide +kernel
theorem d_M_leg_83 : decode b_M_leg 83 = .ok (.iconst 0, 1) := by decide +kernel
theorem d_M_leg_84 : decode b_M_leg 84 = .ok (.ireturn, 1) := by decide +kernel
theorem d_M_leg_85 : decode b_M_leg 85 = .ok (.aload_n 0, 1) := by decide +kernel
theorem d_M_leg_86 : decode b_M_leg 86 = .ok (.getfield 26, 3) := by decide +kernel
theorem d_M_leg_89 : decode b_M_leg 89 = .ok (.getfield 171, 3) := by decide +kernel
theorem d_M_leg_92 : decode b_M_leg 92 = .ok (.iload_n 1, 1) := by decide +kernel
theorem d_M_leg_93 : decode b_M_leg 93 = .ok (.iload_n 2, 1) := by decide +kernel
theorem d_M_leg_94 : decode b_M_leg 94 = .ok (.iastore, 1) := by decide +kernel
theorem d_M_leg_95 : decode b_M_leg 95 = .ok (.aload_n 0, 1) := by decide +kernel
theorem d_M_leg_96 : decode b_M_leg 96 = .ok (.getfield 26, 3) := by decide +kernel
theorem d_M_leg_99 : decode b_M_leg 99 = .ok (.getfield 174, 3) := by decide +kernel
theorem d_M_leg_102 : decode b_M_leg 102 = .ok (.iload_n 2, 1) := by decide +kernel
theorem d_M_leg_103 : decode b_M_leg 103 = .ok (.iload_n 1, 1) := by decide +kernel
theorem d_M_leg_104 : decode b_M_leg 104 = .ok (.iastore, 1) := by decide +kernel
theorem d_M_leg_105 : decode b_M_leg 105 = .ok (.iconst 1, 1) := by decide +kernel
theorem d_M_leg_106 : decode b_M_leg 106 = .ok (.ireturn, 1) := by decide +kernel
theorem d_M_look_0 : decode b_M_look 0 = .ok (.aload_n 0, 1) := by decide +kernel
theorem d_M_look_1 : decode b_M_look 1 = .ok (.getfield 12, 3) := by decide +kernel
theorem d_M_look_4 : decode b_M_look 4 = .ok (.iload_n 1, 1) := by decide +kernel
theorem d_M_look_5 : decode b_M_look 5 = .ok (.invokevirtual 71, 3) := by decide +kernel
theorem d_M_look_8 : decode b_M_look 8 = .ok (.ifCond .ne 13, 3) := by decide +kernel
theorem d_M_look_11 : decode b_M_look 11 = .ok (.new 180, 3) := by decide +kernel
theorem d_M_look_14 : decode b_M_look 14 = .ok (.dup, 1) := by decide +kernel
theorem d_M_look_15 : decode b_M_look 15 = .ok (.ldc 182, 2) := by decide +kernel
theorem d_M_look_17 : decode b_M_look 17 = .ok (.invokespecial 184, 3) := by decide +kernel
theorem d_M_look_20 : decode b_M_look 20 = .ok (.athrow, 1) := by decide +kernel
theorem d_M_look_21 : decode b_M_look 21 = .ok (.iload_n 2, 1) := by decide +kernel
theorem d_M_look_22 : decode b_M_look 22 = .ok (.tableswitch 257 0 15 #[78, 88, 98, 108, 118, 128, 138, 148, 154, 163, 186, 209, 219, 229, 238, 247], 78) := by decide +kernel
theorem d_M_look_100 : decode b_M_look 100 = .ok (.aload_n 0, 1) := by decide +kernel
theorem d_M_look_101 : decode b_M_look 101 = .ok (.getfield 12, 3) := by decide +kernel
theorem d_M_look_104 : decode b_M_look 104 = .ok (.getfield 97, 3) := by decide +kernel
theorem d_M_look_107 : decode b_M_look 107 = .ok (.iload_n 1, 1) := by decide +kernel
theorem d_M_look_108 : decode b_M_look 108 = .ok (.iaload, 1) := by decide +kernel
theorem d_M_look_109 : decode b_M_look 109 = .ok (.ireturn, 1) := by decide +kernel
theorem d_M_look_110 : decode b_M_look 110 = .ok (.aload_n 0, 1) := by decide +kernel
theorem d_M_look_111 : decode b_M_look 111 = .ok (.getfield 12, 3) := by decide +kernel
theorem d_M_look_114 : decode b_M_look 114 = .ok (.getfield 185, 3) := by decide +kernel
theorem d_M_look_117 : decode b_M_look 117 = .ok (.iload_n 1, 1) := by decide +kernel
theorem d_M_look_118 : decode b_M_look 118 = .ok (.iaload, 1) := by decide +kernel
theorem d_M_look_119 : decode b_M_look 119 = .ok (.ireturn, 1) := by decide +kernel
theorem d_M_look_120 : decode b_M_look 120 = .ok (.aload_n 0, 1) := by decide +kernel
theorem d_M_look_121 : decode b_M_look 121 = .ok (.getfield 12, 3) := by decide +kernel
theorem d_M_look_124 : decode b_M_look 124 = .ok (.getfield 168, 3) := by decide +kernel
theorem d_M_look_127 : decode b_M_look 127 = .ok (.iload_n 1, 1) := by decide +kernel
theorem d_M_look_128 : decode b_M_look 128 = .ok (.iaload, 1) := by decide +kernel
theorem d_M_look_129 : decode b_M_look 129 = .ok (.ireturn, 1) := by decide +kernel
theorem d_M_look_130 : decode b_M_look 130 = .ok (.aload_n 0, 1) := by decide +kernel
theorem d_M_look_131 : decode b_M_look 131 = .ok (.getfield 12, 3) := by decide +kernel
theorem d_M_look_134 : decode b_M_look 134 = .ok (.getfield 188, 3) := by decide +kernel
theorem d_M_look_137 : decode b_M_look 137 = .ok (.iload_n 1, 1) := by decide +kernel
theorem d_M_look_138 : decode b_M_look 138 = .ok (.iaload, 1) := by decide +kernel
theorem d_M_look_139 : decode b_M_look 139 = .ok (.ireturn, 1) := by decide +kernel
theorem d_M_look_140 : decode b_M_look 140 = .ok (.aload_n 0, 1) := by decide +kernel
theorem d_M_look_141 : decode b_M_look 141 = .ok (.getfield 19, 3) := by decide +kernel
theorem d_M_look_144 : decode b_M_look 144 = .ok (.getfield 191, 3) := by decide +kernel
theorem d_M_look_147 : decode b_M_look 147 = .ok (.iload_n 1, 1) := by decide +kernel
theorem d_M_look_148 : decode b_M_look 148 = .ok (.iaload, 1) := by decide +kernel
theorem d_M_look_149 : decode b_M_look 149 = .ok (.ireturn, 1) := by decide +kernel
theorem d_M_look_150 : decode b_M_look 150 = .ok (.aload_n 0, 1) := by decide +kernel
theorem d_M_look_151 : decode b_M_look 151 = .ok (.getfield 19, 3) := by decide +kernel
theorem d_M_look_154 : decode b_M_look 154 = .ok (.getfield 156, 3) := by decide +kernel
theorem d_M_look_157 : decode b_M_look 157 = .ok (.iload_n 1, 1) := by decide +kernel
theorem d_M_look_158 : decode b_M_look 158 = .ok (.iaload, 1) := by decide +kernel
theorem d_M_look_159 : decode b_M_look 159 = .ok (.ireturn, 1) := by decide +kernel
theorem d_M_look_160 : decode b_M_look 160 = .ok (.aload_n 0, 1) := by decide +kernel
theorem d_M_look_161 : decode b_M_look 161 = .ok (.getfield 19, 3) := by decide +kernel
theorem d_M_look_164 : decode b_M_look 164 = .ok (.getfield 194, 3) := by decide +kernel
theorem d_M_look_167 : decode b_M_look 167 = .ok (.iload_n 1, 1) := by decide +kernel
theorem d_M_look_168 : decode b_M_look 168 = .ok (.iaload, 1) := by decide +kernel
theorem d_M_look_169 : decode b_M_look 169 = .ok (.ireturn, 1) := by decide +kernel
theorem d_M_look_170 : decode b_M_look 170 = .ok (.aload_n 0, 1) := by decide +kernel
theorem d_M_look_171 : decode b_M_look 171 = .ok (.iload_n 1, 1) := by decide +kernel
theorem d_M_look_172 : decode b_M_look 172 = .ok (.invokevirtual 197, 3) := by decide +kernel
theorem d_M_look_175 : decode b_M_look 175 = .ok (.ireturn, 1) := by decide +kernel
theorem d_M_look_176 : decode b_M_look 176 = .ok (.aload_n 0, 1) := by decide +kernel
theorem d_M_look_177 : decode b_M_look 177 = .ok (.getfield 26, 3) := by decide +kernel
theorem d_M_look_180 : decode b_M_look 180 = .ok (.iload_n 1, 1) := by decide +kernel
theorem d_M_look_181 : decode b_M_look 181 = .ok (.invokevirtual 200, 3) := by decide +kernel
theorem d_M_look_184 : decode b_M_look 184 = .ok (.ireturn, 1) := by decide +kernel
theorem d_M_look_185 : decode b_M_look 185 = .ok (.aload_n 0, 1) := by decide +kernel
theorem d_M_look_186 : decode b_M_look 186 = .ok (.getfield 19, 3) := by decide +kernel
theorem d_M_look_189 : decode b_M_look 189 = .ok (.getfield 156, 3) := by decide +kernel
theorem d_M_look_192 : decode b_M_look 192 = .ok (.iload_n 1, 1) := by decide +kernel
theorem d_M_look_193 : decode b_M_look 193 = .ok (.iaload, 1) := by decide +kernel
theorem d_M_look_194 : decode b_M_look 194 = .ok (.aload_n 0, 1) := by decide +kernel
theorem d_M_look_195 : decode b_M_look 195 = .ok (.getfield 26, 3) := by decide +kernel
theorem d_M_look_198 : decode b_M_look 198 = .ok (.iload_n 1, 1) := by decide +kernel
theorem d_M_look_199 : decode b_M_look 199 = .ok (.invokevirtual 200, 3) := by decide +kernel
theorem d_M_look_202 : decode b_M_look 202 = .ok (.isub, 1) := by decide +kernel
theorem d_M_look_203 : decode b_M_look 203 = .ok (.iconst 0, 1) := by decide +kernel
theorem d_M_look_204 : decode b_M_look 204 = .ok (.invokestatic 203, 3) := by decide +kernel
theorem d_M_look_207 : decode b_M_look 207 = .ok (.ireturn, 1) := by decide +kernel
theorem d_M_look_208 : decode b_M_look 208 = .ok (.aload_n 0, 1) := by decide +kernel
theorem d_M_look_209 : decode b_M_look 209 = .ok (.getfield 26, 3) := by decide +kernel
theorem d_M_look_212 : decode b_M_look 212 = .ok (.iload_n 1, 1) := by decide +kernel
theorem d_M_look_213 : decode b_M_look 213 = .ok (.invokevirtual 200, 3) := by decide +kernel
theorem d_M_look_216 : decode b_M_look 216 = .ok (.aload_n 0, 1) := by decide +kernel
theorem d_M_look_217 : decode b_M_look 217 = .ok (.getfield 19, 3) := by decide +kernel
theorem d_M_look_220 : decode b_M_look 220 = .ok (.getfield 156, 3) := by decide +kernel
theorem d_M_look_223 : decode b_M_look 223 = .ok (.iload_n 1, 1) := by decide +kernel
theorem d_M_look_224 : decode b_M_look 224 = .ok (.iaload, 1) := by decide +kernel
theorem d_M_look_225 : decode b_M_look 225 = .ok (.isub, 1) := by decide +kernel
theorem d_M_look_226 : decode b_M_look 226 = .ok (.iconst 0, 1) := by decide +kernel
theorem d_M_look_227 : decode b_M_look 227 = .ok (.invokestatic 203, 3) := by decide +kernel
theorem d_M_look_230 : decode b_M_look 230 = .ok (.ireturn, 1) := by decide +kernel
theorem d_M_look_231 : decode b_M_look 231 = .ok (.aload_n 0, 1) := by decide +kernel
theorem d_M_look_232 : decode b_M_look 232 = .ok (.getfield 12, 3) := by decide +kernel
theorem d_M_look_235 : decode b_M_look 235 = .ok (.getfield 140, 3) := by decide +kernel
theorem d_M_look_238 : decode b_M_look 238 = .ok (.iload_n 1, 1) := by decide +kernel
theorem d_M_look_239 : decode b_M_look 239 = .ok (.iaload, 1) := by decide +kernel
theorem d_M_look_240 : decode b_M_look 240 = .ok (.ireturn, 1) := by decide +kernel
theorem d_M_look_241 : decode b_M_look 241 = .ok (.aload_n 0, 1) := by decide +kernel
theorem d_M_look_242 : decode b_M_look 242 = .ok (.getfield 12, 3) := by decide +kernel
theorem d_M_look_245 : decode b_M_look 245 = .ok (.getfield 149, 3) := by decide +kernel
theorem d_M_look_248 : decode b_M_look 248 = .ok (.iload_n 1, 1) := by decide +kernel
theorem d_M_look_249 : decode b_M_look 249 = .ok (.iaload, 1) := by decide +kernel
theorem d_M_look_250 : decode b_M_look 250 = .ok (.ireturn, 1) := by decide +kernel
theorem d_M_look_251 : decode b_M_look 251 = .ok (.aload_n 0, 1) := by decide +kernel
theorem d_M_look_252 : decode b_M_look 252 = .ok (.getfield 12, 3) := by decide +kernel
theorem d_M_look_255 : decode b_M_look 255 = .ok (.iload_n 1, 1) := by decide +kernel
theorem d_M_look_256 : decode b_M_look 256 = .ok (.invokevirtual 159, 3) := by decide +kernel
theorem d_M_look_259 : decode b_M_look 259 = .ok (.ireturn, 1) := by decide +kernel
theorem d_M_look_260 : decode b_M_look 260 = .ok (.aload_n 0, 1) := by decide +kernel
theorem d_M_look_261 : decode b_M_look 261 = .ok (.getfield 26, 3) := by decide +kernel
theorem d_M_look_264 : decode b_M_look 264 = .ok (.iload_n 1, 1) := by decide +kernel
theorem d_M_look_265 : decode b_M_look 265 = .ok (.invokevirtual 206, 3) := by decide +kernel
theorem d_M_look_268 : decode b_M_look 268 = .ok (.ireturn, 1) := by decide +kernel
theorem d_M_look_269 : decode b_M_look 269 = .ok (.aload_n 0, 1) := by decide +kernel
theorem d_M_look_270 : decode b_M_look 270 = .ok (.getfield 12, 3) := by decide +kernel
