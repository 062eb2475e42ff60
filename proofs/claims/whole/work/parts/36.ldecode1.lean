theorem d_L_bill_0 : decode b_L_bill 0 = .ok (.aload 4, 2) := by decide +kernel
theorem d_L_bill_2 : decode b_L_bill 2 = .ok (.iconst 0, 1) := by decide +kernel
theorem d_L_bill_3 : decode b_L_bill 3 = .ok (.aload_n 0, 1) := by decide +kernel
theorem d_L_bill_4 : decode b_L_bill 4 = .ok (.iload_n 1, 1) := by decide +kernel
theorem d_L_bill_5 : decode b_L_bill 5 = .ok (.iload_n 2, 1) := by decide +kernel
theorem d_L_bill_6 : decode b_L_bill 6 = .ok (.iload_n 3, 1) := by decide +kernel
theorem d_L_bill_7 : decode b_L_bill 7 = .ok (.invokevirtual 7, 3) := by decide +kernel
theorem d_L_bill_10 : decode b_L_bill 10 = .ok (.i2l, 1) := by decide +kernel
theorem d_L_bill_11 : decode b_L_bill 11 = .ok (.lastore, 1) := by decide +kernel
theorem d_L_bill_12 : decode b_L_bill 12 = .ok (.goto 11, 3) := by decide +kernel
theorem d_L_bill_15 : decode b_L_bill 15 = .ok (.astore 5, 2) := by decide +kernel
theorem d_L_bill_17 : decode b_L_bill 17 = .ok (.iconst 1, 1) := by decide +kernel
theorem d_L_bill_18 : decode b_L_bill 18 = .ok (.ireturn, 1) := by decide +kernel
theorem d_L_bill_19 : decode b_L_bill 19 = .ok (.astore 5, 2) := by decide +kernel
theorem d_L_bill_21 : decode b_L_bill 21 = .ok (.iconst 2, 1) := by decide +kernel
theorem d_L_bill_22 : decode b_L_bill 22 = .ok (.ireturn, 1) := by decide +kernel
theorem d_L_bill_23 : decode b_L_bill 23 = .ok (.iconst 0, 1) := by decide +kernel
theorem d_L_bill_24 : decode b_L_bill 24 = .ok (.ireturn, 1) := by decide +kernel
theorem d_L_line_0 : decode b_L_line 0 = .ok (.aload 4, 2) := by decide +kernel
theorem d_L_line_2 : decode b_L_line 2 = .ok (.iconst 0, 1) := by decide +kernel
theorem d_L_line_3 : decode b_L_line 3 = .ok (.aload_n 0, 1) := by decide +kernel
theorem d_L_line_4 : decode b_L_line 4 = .ok (.iload_n 1, 1) := by decide +kernel
theorem d_L_line_5 : decode b_L_line 5 = .ok (.iload_n 2, 1) := by decide +kernel
theorem d_L_line_6 : decode b_L_line 6 = .ok (.iload_n 3, 1) := by decide +kernel
theorem d_L_line_7 : decode b_L_line 7 = .ok (.invokevirtual 17, 3) := by decide +kernel
theorem d_L_line_10 : decode b_L_line 10 = .ok (.i2l, 1) := by decide +kernel
theorem d_L_line_11 : decode b_L_line 11 = .ok (.lastore, 1) := by decide +kernel
theorem d_L_line_12 : decode b_L_line 12 = .ok (.goto 11, 3) := by decide +kernel
theorem d_L_line_15 : decode b_L_line 15 = .ok (.astore 5, 2) := by decide +kernel
theorem d_L_line_17 : decode b_L_line 17 = .ok (.iconst 1, 1) := by decide +kernel
theorem d_L_line_18 : decode b_L_line 18 = .ok (.ireturn, 1) := by decide +kernel
theorem d_L_line_19 : decode b_L_line 19 = .ok (.astore 5, 2) := by decide +kernel
theorem d_L_line_21 : decode b_L_line 21 = .ok (.iconst 2, 1) := by decide +kernel
theorem d_L_line_22 : decode b_L_line 22 = .ok (.ireturn, 1) := by decide +kernel
theorem d_L_line_23 : decode b_L_line 23 = .ok (.iconst 0, 1) := by decide +kernel
theorem d_L_line_24 : decode b_L_line 24 = .ok (.ireturn, 1) := by decide +kernel
theorem d_L_box_0 : decode b_L_box 0 = .ok (.aload 4, 2) := by decide +kernel
theorem d_L_box_2 : decode b_L_box 2 = .ok (.iconst 0, 1) := by decide +kernel
theorem d_L_box_3 : decode b_L_box 3 = .ok (.aload_n 0, 1) := by decide +kernel
theorem d_L_box_4 : decode b_L_box 4 = .ok (.iload_n 1, 1) := by decide +kernel
theorem d_L_box_5 : decode b_L_box 5 = .ok (.iload_n 2, 1) := by decide +kernel
theorem d_L_box_6 : decode b_L_box 6 = .ok (.iload_n 3, 1) := by decide +kernel
theorem d_L_box_7 : decode b_L_box 7 = .ok (.invokevirtual 20, 3) := by decide +kernel
theorem d_L_box_10 : decode b_L_box 10 = .ok (.i2l, 1) := by decide +kernel
theorem d_L_box_11 : decode b_L_box 11 = .ok (.lastore, 1) := by decide +kernel
theorem d_L_box_12 : decode b_L_box 12 = .ok (.goto 11, 3) := by decide +kernel
theorem d_L_box_15 : decode b_L_box 15 = .ok (.astore 5, 2) := by decide +kernel
theorem d_L_box_17 : decode b_L_box 17 = .ok (.iconst 1, 1) := by decide +kernel
theorem d_L_box_18 : decode b_L_box 18 = .ok (.ireturn, 1) := by decide +kernel
theorem d_L_box_19 : decode b_L_box 19 = .ok (.astore 5, 2) := by decide +kernel
theorem d_L_box_21 : decode b_L_box 21 = .ok (.iconst 2, 1) := by decide +kernel
theorem d_L_box_22 : decode b_L_box 22 = .ok (.ireturn, 1) := by decide +kernel
theorem d_L_box_23 : decode b_L_box 23 = .ok (.iconst 0, 1) := by decide +kernel
theorem d_L_box_24 : decode b_L_box 24 = .ok (.ireturn, 1) := by decide +kernel
theorem d_L_amend_0 : decode b_L_amend 0 = .ok (.aload 4, 2) := by decide +kernel
theorem d_L_amend_2 : decode b_L_amend 2 = .ok (.iconst 0, 1) := by decide +kernel
theorem d_L_amend_3 : decode b_L_amend 3 = .ok (.aload_n 0, 1) := by decide +kernel
theorem d_L_amend_4 : decode b_L_amend 4 = .ok (.iload_n 1, 1) := by decide +kernel
theorem d_L_amend_5 : decode b_L_amend 5 = .ok (.iload_n 2, 1) := by decide +kernel
theorem d_L_amend_6 : decode b_L_amend 6 = .ok (.iload_n 3, 1) := by decide +kernel
theorem d_L_amend_7 : decode b_L_amend 7 = .ok (.invokevirtual 23, 3) := by decide +kernel
theorem d_L_amend_10 : decode b_L_amend 10 = .ok (.i2l, 1) := by decide +kernel
theorem d_L_amend_11 : decode b_L_amend 11 = .ok (.lastore, 1) := by decide +kernel
theorem d_L_amend_12 : decode b_L_amend 12 = .ok (.goto 7, 3) := by decide +kernel
theorem d_L_amend_15 : decode b_L_amend 15 = .ok (.astore 5, 2) := by decide +kernel
theorem d_L_amend_17 : decode b_L_amend 17 = .ok (.iconst 1, 1) := by decide +kernel
theorem d_L_amend_18 : decode b_L_amend 18 = .ok (.ireturn, 1) := by decide +kernel
theorem d_L_amend_19 : decode b_L_amend 19 = .ok (.iconst 0, 1) := by decide +kernel
theorem d_L_amend_20 : decode b_L_amend 20 = .ok (.ireturn, 1) := by decide +kernel
theorem d_L_title_0 : decode b_L_title 0 = .ok (.aload 4, 2) := by decide +kernel
theorem d_L_title_2 : decode b_L_title 2 = .ok (.iconst 0, 1) := by decide +kernel
theorem d_L_title_3 : decode b_L_title 3 = .ok (.aload_n 0, 1) := by decide +kernel
theorem d_L_title_4 : decode b_L_title 4 = .ok (.iload_n 1, 1) := by decide +kernel
theorem d_L_title_5 : decode b_L_title 5 = .ok (.iload_n 2, 1) := by decide +kernel
theorem d_L_title_6 : decode b_L_title 6 = .ok (.iload_n 3, 1) := by decide +kernel
theorem d_L_title_7 : decode b_L_title 7 = .ok (.invokevirtual 26, 3) := by decide +kernel
theorem d_L_title_10 : decode b_L_title 10 = .ok (.i2l, 1) := by decide +kernel
theorem d_L_title_11 : decode b_L_title 11 = .ok (.lastore, 1) := by decide +kernel
theorem d_L_title_12 : decode b_L_title 12 = .ok (.goto 7, 3) := by decide +kernel
theorem d_L_title_15 : decode b_L_title 15 = .ok (.astore 5, 2) := by decide +kernel
theorem d_L_title_17 : decode b_L_title 17 = .ok (.iconst 1, 1) := by decide +kernel
theorem d_L_title_18 : decode b_L_title 18 = .ok (.ireturn, 1) := by decide +kernel
theorem d_L_title_19 : decode b_L_title 19 = .ok (.iconst 0, 1) := by decide +kernel
theorem d_L_title_20 : decode b_L_title 20 = .ok (.ireturn, 1) := by decide +kernel
theorem d_L_order_0 : decode b_L_order 0 = .ok (.aload 4, 2) := by decide +kernel
theorem d_L_order_2 : decode b_L_order 2 = .ok (.iconst 0, 1) := by decide +kernel
theorem d_L_order_3 : decode b_L_order 3 = .ok (.aload_n 0, 1) := by decide +kernel
theorem d_L_order_4 : decode b_L_order 4 = .ok (.iload_n 1, 1) := by decide +kernel
theorem d_L_order_5 : decode b_L_order 5 = .ok (.iload_n 2, 1) := by decide +kernel
theorem d_L_order_6 : decode b_L_order 6 = .ok (.iload_n 3, 1) := by decide +kernel
theorem d_L_order_7 : decode b_L_order 7 = .ok (.invokevirtual 29, 3) := by decide +kernel
theorem d_L_order_10 : decode b_L_order 10 = .ok (.i2l, 1) := by decide +kernel
theorem d_L_order_11 : decode b_L_order 11 = .ok (.lastore, 1) := by decide +kernel
theorem d_L_order_12 : decode b_L_order 12 = .ok (.goto 7, 3) := by decide +kernel
theorem d_L_order_15 : decode b_L_order 15 = .ok (.astore 5, 2) := by decide +kernel
theorem d_L_order_17 : decode b_L_order 17 = .ok (.iconst 1, 1) := by decide +kernel
theorem d_L_order_18 : decode b_L_order 18 = .ok (.ireturn, 1) := by decide +kernel
theorem d_L_order_19 : decode b_L_order 19 = .ok (.iconst 0, 1) := by decide +kernel
theorem d_L_order_20 : decode b_L_order 20 = .ok (.ireturn, 1) := by decide +kernel
theorem d_L_split_0 : decode b_L_split 0 = .ok (.aload_n 3, 1) := by decide +kernel
theorem d_L_split_1 : decode b_L_split 1 = .ok (.iconst 0, 1) := by decide +kernel
theorem d_L_split_2 : decode b_L_split 2 = .ok (.aload_n 0, 1) := by decide +kernel
theorem d_L_split_3 : decode b_L_split 3 = .ok (.iload_n 1, 1) := by decide +kernel
theorem d_L_split_4 : decode b_L_split 4 = .ok (.iload_n 2, 1) := by decide +kernel
theorem d_L_split_5 : decode b_L_split 5 = .ok (.invokevirtual 32, 3) := by decide +kernel
theorem d_L_split_8 : decode b_L_split 8 = .ok (.i2l, 1) := by decide +kernel
theorem d_L_split_9 : decode b_L_split 9 = .ok (.lastore, 1) := by decide +kernel
theorem d_L_split_10 : decode b_L_split 10 = .ok (.goto 11, 3) := by decide +kernel
theorem d_L_split_13 : decode b_L_split 13 = .ok (.astore 4, 2) := by decide +kernel
theorem d_L_split_15 : decode b_L_split 15 = .ok (.iconst 1, 1) := by decide +kernel
theorem d_L_split_16 : decode b_L_split 16 = .ok (.ireturn, 1) := by decide +kernel
theorem d_L_split_17 : decode b_L_split 17 = .ok (.astore 4, 2) := by decide +kernel
theorem d_L_split_19 : decode b_L_split 19 = .ok (.iconst 2, 1) := by decide +kernel
theorem d_L_split_20 : decode b_L_split 20 = .ok (.ireturn, 1) := by decide +kernel
theorem d_L_split_21 : decode b_L_split 21 = .ok (.iconst 0, 1) := by decide +kernel
theorem d_L_split_22 : decode b_L_split 22 = .ok (.ireturn, 1) := by decide +kernel
theorem d_L_look_0 : decode b_L_look 0 = .ok (.aload_n 3, 1) := by decide +kernel
theorem d_L_look_1 : decode b_L_look 1 = .ok (.iconst 0, 1) := by decide +kernel
theorem d_L_look_2 : decode b_L_look 2 = .ok (.aload_n 0, 1) := by decide +kernel
theorem d_L_look_3 : decode b_L_look 3 = .ok (.iload_n 1, 1) := by decide +kernel
theorem d_L_look_4 : decode b_L_look 4 = .ok (.iload_n 2, 1) := by decide +kernel
theorem d_L_look_5 : decode b_L_look 5 = .ok (.invokevirtual 36, 3) := by decide +kernel
theorem d_L_look_8 : decode b_L_look 8 = .ok (.i2l, 1) := by decide +kernel
theorem d_L_look_9 : decode b_L_look 9 = .ok (.lastore, 1) := by decide +kernel
theorem d_L_look_10 : decode b_L_look 10 = .ok (.goto 7, 3) := by decide +kernel
theorem d_L_look_13 : decode b_L_look 13 = .ok (.astore 4, 2) := by decide +kernel
theorem d_L_look_15 : decode b_L_look 15 = .ok (.iconst 1, 1) := by decide +kernel
theorem d_L_look_16 : decode b_L_look 16 = .ok (.ireturn, 1) := by decide +kernel
theorem d_L_look_17 : decode b_L_look 17 = .ok (.iconst 0, 1) := by decide +kernel
theorem d_L_look_18 : decode b_L_look 18 = .ok (.ireturn, 1) := by decide +kernel
theorem d_L_seen_0 : decode b_L_seen 0 = .ok (.aload_n 3, 1) := by decide +kernel
theorem d_L_seen_1 : decode b_L_seen 1 = .ok (.iconst 0, 1) := by decide +kernel
theorem d_L_seen_2 : decode b_L_seen 2 = .ok (.aload_n 0, 1) := by decide +kernel
theorem d_L_seen_3 : decode b_L_seen 3 = .ok (.iload_n 1, 1) := by decide +kernel
theorem d_L_seen_4 : decode b_L_seen 4 = .ok (.iload_n 2, 1) := by decide +kernel
theorem d_L_seen_5 : decode b_L_seen 5 = .ok (.invokevirtual 41, 3) := by decide +kernel
theorem d_L_seen_8 : decode b_L_seen 8 = .ok (.i2l, 1) := by decide +kernel
theorem d_L_seen_9 : decode b_L_seen 9 = .ok (.lastore, 1) := by decide +kernel
theorem d_L_seen_10 : decode b_L_seen 10 = .ok (.goto 11, 3) := by decide +kernel
theorem d_L_seen_13 : decode b_L_seen 13 = .ok (.astore 4, 2) := by decide +kernel
theorem d_L_seen_15 : decode b_L_seen 15 = .ok (.iconst 1, 1) := by decide +kernel
theorem d_L_seen_16 : decode b_L_seen 16 = .ok (.ireturn, 1) := by decide +kernel
theorem d_L_seen_17 : decode b_L_seen 17 = .ok (.astore 4, 2) := by decide +kernel
theorem d_L_seen_19 : decode b_L_seen 19 = .ok (.iconst 2, 1) := by decide +kernel
theorem d_L_seen_20 : decode b_L_seen 20 = .ok (.ireturn, 1) := by decide +kernel
theorem d_L_seen_21 : decode b_L_seen 21 = .ok (.iconst 0, 1) := by decide +kernel
theorem d_L_seen_22 : decode b_L_seen 22 = .ok (.ireturn, 1) := by decide +kernel
theorem d_L_like_0 : decode b_L_like 0 = .ok (.aload 4, 2) := by decide +kernel
theorem d_L_like_2 : decode b_L_like 2 = .ok (.iconst 0, 1) := by decide +kernel
theorem d_L_like_3 : decode b_L_like 3 = .ok (.aload_n 0, 1) := by decide +kernel
theorem d_L_like_4 : decode b_L_like 4 = .ok (.iload_n 1, 1) := by decide +kernel
theorem d_L_like_5 : decode b_L_like 5 = .ok (.iload_n 2, 1) := by decide +kernel
theorem d_L_like_6 : decode b_L_like 6 = .ok (.iload_n 3, 1) := by decide +kernel
theorem d_L_like_7 : decode b_L_like 7 = .ok (.invokevirtual 46, 3) := by decide +kernel
theorem d_L_like_10 : decode b_L_like 10 = .ok (.i2l, 1) := by decide +kernel
theorem d_L_like_11 : decode b_L_like 11 = .ok (.lastore, 1) := by decide +kernel
theorem d_L_like_12 : decode b_L_like 12 = .ok (.goto 7, 3) := by decide +kernel
theorem d_L_like_15 : decode b_L_like 15 = .ok (.astore 5, 2) := by decide +kernel
theorem d_L_like_17 : decode b_L_like 17 = .ok (.iconst 1, 1) := by decide +kernel
theorem d_L_like_18 : decode b_L_like 18 = .ok (.ireturn, 1) := by decide +kernel
theorem d_L_like_19 : decode b_L_like 19 = .ok (.iconst 0, 1) := by decide +kernel
theorem d_L_like_20 : decode b_L_like 20 = .ok (.ireturn, 1) := by decide +kernel
