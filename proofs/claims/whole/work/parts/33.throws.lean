set_option maxHeartbeats 4000000 in
set_option maxRecDepth 100000 in
theorem c_M_bill_t1 (l : Launch) (D : va_G) (ad : Nat → Nat) (kd : Nat → ClassId) (g : Nat → Nat → Int32) (z : Nat → Int64) (v : Nat → Int32) (hlt9 : l.stackTraces = false) (nb : Nat) (hnb : v 2 = nI nb) (hb6 : nb ≤ 60) (x y q : Int32) (hT : cbT nb x y = 1) : TH l y_M_bill (.code y_M_bill b_M_bill 4 (some .int) :: TB) ({ frames := 6, cells := 1, slots := 6, locals := 82 } : Room) [.ref (ad 0), .int x, .int y, .int q] D classes (wA ad kd g z v) (tA kd) xStr "java/lang/IllegalArgumentException" := by
  refine th_of (by decide +kernel) (Nat.le_of_ble_eq_true rfl) ?_
  intro p e s m args below meth c Q ls N hx hb hml htb hown hP hK hX hnoh hlocks hl hq
  have hl : lv_has ls 4 [(0, .ref (ad 0)), (1, .int x), (2, .int y), (3, .int q)] := hl
  refine lv_iload_n hx hb d_M_bill_0 rfl (lv_at hl 1 rfl) ?_
  refine rdS (As := [.int x]) (rest := []) ⟨hx, hb, hml, hown, htb⟩ (c_M_isCall l D (wA ad kd g z v) (tA kd) x) (va_cwS 1 htb (gS tb_good mw_227 mw_228 mw_27 mw_229) rfl rfl rfl (by decide +kernel) ⟨Nat.le_of_ble_eq_true rfl, Nat.le_of_ble_eq_true rfl⟩) hP hK rfl hl.1 rfl (lv_room (Nat.le_of_ble_eq_true rfl)) d_M_bill_1 ⟨Nat.zero_le _, Nat.zero_le _⟩ ?_
  refine lv_if_eq (tgt := 14) hx hb d_M_bill_4 (by decide) (fun c1 => ?_) (fun c1 => ?_)
  · replace c1 := bI_f c1
    exact th_row (own := R_M) (cls := "java/lang/IllegalArgumentException") (text := "no such call or number") (names := ["java/lang/RuntimeException", "java/lang/Exception"]) hx hb hlt9 hown (by decide +kernel) (by decide +kernel) (htb _ mw_295) (htb _ mw_35) (hX.atoms htb at_IA) (hX.2.2.2 (46, "no such call or number") (by decide)) (hl.1.trans hml.symm) d_M_bill_14 d_M_bill_17 d_M_bill_18 d_M_bill_20 d_M_bill_23 hnoh (by decide) (by decide) (by decide) (by decide) hlocks hq
  · replace c1 := bI_t c1
    refine lv_iload_n hx hb d_M_bill_7 rfl (lv_at hl 2 rfl) ?_
    refine rdS (As := [.int y]) (rest := []) ⟨hx, hb, hml, hown, htb⟩ (c_M_isNumber l D (wA ad kd g z v) (tA kd) y) (va_cwS 1 htb (gS tb_good mw_291 mw_292 mw_27 mw_293) rfl rfl rfl (by decide +kernel) ⟨Nat.le_of_ble_eq_true rfl, Nat.le_of_ble_eq_true rfl⟩) hP hK rfl hl.1 rfl (lv_room (Nat.le_of_ble_eq_true rfl)) d_M_bill_8 ⟨Nat.zero_le _, Nat.zero_le _⟩ ?_
    refine lv_if_ne (tgt := 24) hx hb d_M_bill_11 (by decide) (fun c2 => ?_) (fun c2 => ?_)
    · replace c2 := bI_t c2
      refine lv_aload_n hx hb d_M_bill_24 rfl (lv_at hl 0 rfl) ?_
      refine va_get (D := D) (ci := 0) (v := .ref (ad 1)) (C := R_M) (T := F_M) (N := 5) hx hb htb iw_M hown hK hP 0 rfl rfl 0 (by decide) (htb _ mw_161) (fun _ h9 => h9) rfl d_M_bill_25 ?_
      refine rdV (As := []) (rest := []) (b := ad 1) ⟨hx, hb, hml, hown, htb⟩ (c_B_isFull l D ad kd g z v nb hnb hb6) (cwV (C := R_B) 0 htb (gV tb_good mw_364 mw_365 mw_366 mw_28 mw_367) rfl rfl rfl (by decide +kernel) ⟨Nat.le_of_ble_eq_true rfl, Nat.le_of_ble_eq_true rfl⟩) hP hK (va_recv hK hP (ci := 1) (q0 := 1) rfl rfl) rfl hl.1 rfl (lv_room (Nat.le_of_ble_eq_true rfl)) d_M_bill_28 ⟨Nat.zero_le _, Nat.zero_le _⟩ ?_
      refine lv_if_eq (tgt := 44) hx hb d_M_bill_31 (by decide) (fun c3 => ?_) (fun c3 => ?_)
      · replace c3 := bI_f c3
        exact absurd hT (by simp [cbT, c1, c2, c3])
      · replace c3 := bI_t c3
        exact absurd hT (by simp [cbT, c1, c2, c3])
    · replace c2 := bI_f c2
      exact th_row (own := R_M) (cls := "java/lang/IllegalArgumentException") (text := "no such call or number") (names := ["java/lang/RuntimeException", "java/lang/Exception"]) hx hb hlt9 hown (by decide +kernel) (by decide +kernel) (htb _ mw_295) (htb _ mw_35) (hX.atoms htb at_IA) (hX.2.2.2 (46, "no such call or number") (by decide)) (hl.1.trans hml.symm) d_M_bill_14 d_M_bill_17 d_M_bill_18 d_M_bill_20 d_M_bill_23 hnoh (by decide) (by decide) (by decide) (by decide) hlocks hq
set_option maxHeartbeats 4000000 in
set_option maxRecDepth 100000 in
theorem c_M_line_t1 (l : Launch) (D : va_G) (ad : Nat → Nat) (kd : Nat → ClassId) (g : Nat → Nat → Int32) (z : Nat → Int64) (v : Nat → Int32) (hlt9 : l.stackTraces = false) (nb : Nat) (hnb : v 2 = nI nb) (hb6 : nb ≤ 60) (nl : Nat) (hnl : v 3 = nI nl) (hl2 : nl ≤ 200) (x y q : Int32) (hT : clT nb nl x y q = 1) : TH l y_M_line (.code y_M_line b_M_line 4 (some .int) :: TB) ({ frames := 6, cells := 1, slots := 6, locals := 82 } : Room) [.ref (ad 0), .int x, .int y, .int q] D classes (wA ad kd g z v) (tA kd) xStr "java/lang/IllegalArgumentException" := by
  refine th_of (by decide +kernel) (Nat.le_of_ble_eq_true rfl) ?_
  intro p e s m args below meth c Q ls N hx hb hml htb hown hP hK hX hnoh hlocks hl hq
  have hl : lv_has ls 4 [(0, .ref (ad 0)), (1, .int x), (2, .int y), (3, .int q)] := hl
  refine lv_aload_n hx hb d_M_line_0 rfl (lv_at hl 0 rfl) ?_
  refine va_get (D := D) (ci := 0) (v := .ref (ad 1)) (C := R_M) (T := F_M) (N := 5) hx hb htb iw_M hown hK hP 0 rfl rfl 0 (by decide) (htb _ mw_161) (fun _ h9 => h9) rfl d_M_line_1 ?_
  refine lv_iload_n hx hb d_M_line_4 rfl (lv_at hl 1 rfl) ?_
  refine rdV (As := [.int x]) (rest := []) (b := ad 1) ⟨hx, hb, hml, hown, htb⟩ (c_B_has l D ad kd g z v nb hnb hb6 x) (cwV (C := R_B) 1 htb (gV tb_good mw_185 mw_186 mw_187 mw_28 mw_188) rfl rfl rfl (by decide +kernel) ⟨Nat.le_of_ble_eq_true rfl, Nat.le_of_ble_eq_true rfl⟩) hP hK (va_recv hK hP (ci := 1) (q0 := 1) rfl rfl) rfl hl.1 rfl (lv_room (Nat.le_of_ble_eq_true rfl)) d_M_line_5 ⟨Nat.zero_le _, Nat.zero_le _⟩ ?_
  refine lv_if_eq (tgt := 29) hx hb d_M_line_8 (by decide) (fun c1 => ?_) (fun c1 => ?_)
  · replace c1 := bI_f c1
    exact th_row (own := R_M) (cls := "java/lang/IllegalArgumentException") (text := "no such bill, weight or pieces") (names := ["java/lang/RuntimeException", "java/lang/Exception"]) hx hb hlt9 hown (by decide +kernel) (by decide +kernel) (htb _ mw_295) (htb _ mw_35) (hX.atoms htb at_IA) (hX.2.2.2 (77, "no such bill, weight or pieces") (by decide)) (hl.1.trans hml.symm) d_M_line_29 d_M_line_32 d_M_line_33 d_M_line_35 d_M_line_38 hnoh (by decide) (by decide) (by decide) (by decide) hlocks hq
  · replace c1 := bI_t c1
    refine lv_iload_n hx hb d_M_line_11 rfl (lv_at hl 2 rfl) ?_
    refine rdS (As := [.int y]) (rest := []) ⟨hx, hb, hml, hown, htb⟩ (c_M_isWeight l D (wA ad kd g z v) (tA kd) y) (va_cwS 1 htb (gS tb_good mw_219 mw_220 mw_27 mw_221) rfl rfl rfl (by decide +kernel) ⟨Nat.le_of_ble_eq_true rfl, Nat.le_of_ble_eq_true rfl⟩) hP hK rfl hl.1 rfl (lv_room (Nat.le_of_ble_eq_true rfl)) d_M_line_12 ⟨Nat.zero_le _, Nat.zero_le _⟩ ?_
    refine lv_if_eq (tgt := 29) hx hb d_M_line_15 (by decide) (fun c2 => ?_) (fun c2 => ?_)
    · replace c2 := bI_f c2
      exact th_row (own := R_M) (cls := "java/lang/IllegalArgumentException") (text := "no such bill, weight or pieces") (names := ["java/lang/RuntimeException", "java/lang/Exception"]) hx hb hlt9 hown (by decide +kernel) (by decide +kernel) (htb _ mw_295) (htb _ mw_35) (hX.atoms htb at_IA) (hX.2.2.2 (77, "no such bill, weight or pieces") (by decide)) (hl.1.trans hml.symm) d_M_line_29 d_M_line_32 d_M_line_33 d_M_line_35 d_M_line_38 hnoh (by decide) (by decide) (by decide) (by decide) hlocks hq
    · replace c2 := bI_t c2
      refine lv_iload_n hx hb d_M_line_18 rfl (lv_at hl 3 rfl) ?_
      refine lv_if_lt (tgt := 29) hx hb d_M_line_19 (by decide) (fun c3 => ?_) (fun c3 => ?_)
      · exact th_row (own := R_M) (cls := "java/lang/IllegalArgumentException") (text := "no such bill, weight or pieces") (names := ["java/lang/RuntimeException", "java/lang/Exception"]) hx hb hlt9 hown (by decide +kernel) (by decide +kernel) (htb _ mw_295) (htb _ mw_35) (hX.atoms htb at_IA) (hX.2.2.2 (77, "no such bill, weight or pieces") (by decide)) (hl.1.trans hml.symm) d_M_line_29 d_M_line_32 d_M_line_33 d_M_line_35 d_M_line_38 hnoh (by decide) (by decide) (by decide) (by decide) hlocks hq
      · refine lv_iload_n hx hb d_M_line_22 rfl (lv_at hl 3 rfl) ?_
        refine lv_sipush (v := 10000) hx hb d_M_line_23 (by decide) ?_
        refine lv_icmp_le (tgt := 39) hx hb d_M_line_26 (by decide) (fun c4 => ?_) (fun c4 => ?_)
        · refine lv_aload_n hx hb d_M_line_39 rfl (lv_at hl 0 rfl) ?_
          refine va_get (D := D) (ci := 0) (v := .ref (ad 9)) (C := R_M) (T := F_M) (N := 5) hx hb htb iw_M hown hK hP 0 rfl rfl 1 (by decide) (htb _ mw_162) (fun _ h9 => h9) rfl d_M_line_40 ?_
          refine rdV (As := []) (rest := []) (b := ad 9) ⟨hx, hb, hml, hown, htb⟩ (c_N_isFull l D ad kd g z v nl hnl hl2) (cwV (C := R_N) 0 htb (gV tb_good mw_409 mw_410 mw_411 mw_29 mw_412) rfl rfl rfl (by decide +kernel) ⟨Nat.le_of_ble_eq_true rfl, Nat.le_of_ble_eq_true rfl⟩) hP hK (va_recv hK hP (ci := 2) (q0 := 9) rfl rfl) rfl hl.1 rfl (lv_room (Nat.le_of_ble_eq_true rfl)) d_M_line_43 ⟨Nat.zero_le _, Nat.zero_le _⟩ ?_
          refine lv_if_eq (tgt := 59) hx hb d_M_line_46 (by decide) (fun c5 => ?_) (fun c5 => ?_)
          · replace c5 := bI_f c5
            exact absurd hT (by simp [clT, c1, c2, c3, c4, c5])
          · replace c5 := bI_t c5
            exact absurd hT (by simp [clT, c1, c2, c3, c4, c5])
        · exact th_row (own := R_M) (cls := "java/lang/IllegalArgumentException") (text := "no such bill, weight or pieces") (names := ["java/lang/RuntimeException", "java/lang/Exception"]) hx hb hlt9 hown (by decide +kernel) (by decide +kernel) (htb _ mw_295) (htb _ mw_35) (hX.atoms htb at_IA) (hX.2.2.2 (77, "no such bill, weight or pieces") (by decide)) (hl.1.trans hml.symm) d_M_line_29 d_M_line_32 d_M_line_33 d_M_line_35 d_M_line_38 hnoh (by decide) (by decide) (by decide) (by decide) hlocks hq
set_option maxHeartbeats 4000000 in
set_option maxRecDepth 100000 in
theorem c_M_box_t1 (l : Launch) (D : va_G) (ad : Nat → Nat) (kd : Nat → ClassId) (g : Nat → Nat → Int32) (z : Nat → Int64) (v : Nat → Int32) (hlt9 : l.stackTraces = false) (nx : Nat) (hnx : v 4 = nI nx) (hx6 : nx ≤ 60) (x y q : Int32) (hT : cxT nx x y q = 1) : TH l y_M_box (.code y_M_box b_M_box 4 (some .int) :: TB) ({ frames := 6, cells := 1, slots := 6, locals := 82 } : Room) [.ref (ad 0), .int x, .int y, .int q] D classes (wA ad kd g z v) (tA kd) xStr "java/lang/IllegalArgumentException" := by
  refine th_of (by decide +kernel) (Nat.le_of_ble_eq_true rfl) ?_
  intro p e s m args below meth c Q ls N hx hb hml htb hown hP hK hX hnoh hlocks hl hq
  have hl : lv_has ls 4 [(0, .ref (ad 0)), (1, .int x), (2, .int y), (3, .int q)] := hl
  refine lv_iload_n hx hb d_M_box_0 rfl (lv_at hl 1 rfl) ?_
  refine rdS (As := [.int x]) (rest := []) ⟨hx, hb, hml, hown, htb⟩ (c_M_isCall l D (wA ad kd g z v) (tA kd) x) (va_cwS 1 htb (gS tb_good mw_227 mw_228 mw_27 mw_229) rfl rfl rfl (by decide +kernel) ⟨Nat.le_of_ble_eq_true rfl, Nat.le_of_ble_eq_true rfl⟩) hP hK rfl hl.1 rfl (lv_room (Nat.le_of_ble_eq_true rfl)) d_M_box_1 ⟨Nat.zero_le _, Nat.zero_le _⟩ ?_
  refine lv_if_eq (tgt := 21) hx hb d_M_box_4 (by decide) (fun c1 => ?_) (fun c1 => ?_)
  · replace c1 := bI_f c1
    exact th_row (own := R_M) (cls := "java/lang/IllegalArgumentException") (text := "no such call, number or weight") (names := ["java/lang/RuntimeException", "java/lang/Exception"]) hx hb hlt9 hown (by decide +kernel) (by decide +kernel) (htb _ mw_295) (htb _ mw_35) (hX.atoms htb at_IA) (hX.2.2.2 (85, "no such call, number or weight") (by decide)) (hl.1.trans hml.symm) d_M_box_21 d_M_box_24 d_M_box_25 d_M_box_27 d_M_box_30 hnoh (by decide) (by decide) (by decide) (by decide) hlocks hq
  · replace c1 := bI_t c1
    refine lv_iload_n hx hb d_M_box_7 rfl (lv_at hl 2 rfl) ?_
    refine rdS (As := [.int y]) (rest := []) ⟨hx, hb, hml, hown, htb⟩ (c_M_isNumber l D (wA ad kd g z v) (tA kd) y) (va_cwS 1 htb (gS tb_good mw_291 mw_292 mw_27 mw_293) rfl rfl rfl (by decide +kernel) ⟨Nat.le_of_ble_eq_true rfl, Nat.le_of_ble_eq_true rfl⟩) hP hK rfl hl.1 rfl (lv_room (Nat.le_of_ble_eq_true rfl)) d_M_box_8 ⟨Nat.zero_le _, Nat.zero_le _⟩ ?_
    refine lv_if_eq (tgt := 21) hx hb d_M_box_11 (by decide) (fun c2 => ?_) (fun c2 => ?_)
    · replace c2 := bI_f c2
      exact th_row (own := R_M) (cls := "java/lang/IllegalArgumentException") (text := "no such call, number or weight") (names := ["java/lang/RuntimeException", "java/lang/Exception"]) hx hb hlt9 hown (by decide +kernel) (by decide +kernel) (htb _ mw_295) (htb _ mw_35) (hX.atoms htb at_IA) (hX.2.2.2 (85, "no such call, number or weight") (by decide)) (hl.1.trans hml.symm) d_M_box_21 d_M_box_24 d_M_box_25 d_M_box_27 d_M_box_30 hnoh (by decide) (by decide) (by decide) (by decide) hlocks hq
    · replace c2 := bI_t c2
      refine lv_iload_n hx hb d_M_box_14 rfl (lv_at hl 3 rfl) ?_
      refine rdS (As := [.int q]) (rest := []) ⟨hx, hb, hml, hown, htb⟩ (c_M_isWeight l D (wA ad kd g z v) (tA kd) q) (va_cwS 1 htb (gS tb_good mw_219 mw_220 mw_27 mw_221) rfl rfl rfl (by decide +kernel) ⟨Nat.le_of_ble_eq_true rfl, Nat.le_of_ble_eq_true rfl⟩) hP hK rfl hl.1 rfl (lv_room (Nat.le_of_ble_eq_true rfl)) d_M_box_15 ⟨Nat.zero_le _, Nat.zero_le _⟩ ?_
      refine lv_if_ne (tgt := 31) hx hb d_M_box_18 (by decide) (fun c3 => ?_) (fun c3 => ?_)
      · replace c3 := bI_t c3
        refine lv_aload_n hx hb d_M_box_31 rfl (lv_at hl 0 rfl) ?_
        refine va_get (D := D) (ci := 0) (v := .ref (ad 15)) (C := R_M) (T := F_M) (N := 5) hx hb htb iw_M hown hK hP 0 rfl rfl 2 (by decide) (htb _ mw_163) (fun _ h9 => h9) rfl d_M_box_32 ?_
        refine rdV (As := []) (rest := []) (b := ad 15) ⟨hx, hb, hml, hown, htb⟩ (c_X_isFull l D ad kd g z v nx hnx hx6) (cwV (C := R_X) 0 htb (gV tb_good mw_426 mw_427 mw_428 mw_30 mw_429) rfl rfl rfl (by decide +kernel) ⟨Nat.le_of_ble_eq_true rfl, Nat.le_of_ble_eq_true rfl⟩) hP hK (va_recv hK hP (ci := 3) (q0 := 15) rfl rfl) rfl hl.1 rfl (lv_room (Nat.le_of_ble_eq_true rfl)) d_M_box_35 ⟨Nat.zero_le _, Nat.zero_le _⟩ ?_
        refine lv_if_eq (tgt := 51) hx hb d_M_box_38 (by decide) (fun c4 => ?_) (fun c4 => ?_)
        · replace c4 := bI_f c4
          exact absurd hT (by simp [cxT, c1, c2, c3, c4])
        · replace c4 := bI_t c4
          exact absurd hT (by simp [cxT, c1, c2, c3, c4])
      · replace c3 := bI_f c3
        exact th_row (own := R_M) (cls := "java/lang/IllegalArgumentException") (text := "no such call, number or weight") (names := ["java/lang/RuntimeException", "java/lang/Exception"]) hx hb hlt9 hown (by decide +kernel) (by decide +kernel) (htb _ mw_295) (htb _ mw_35) (hX.atoms htb at_IA) (hX.2.2.2 (85, "no such call, number or weight") (by decide)) (hl.1.trans hml.symm) d_M_box_21 d_M_box_24 d_M_box_25 d_M_box_27 d_M_box_30 hnoh (by decide) (by decide) (by decide) (by decide) hlocks hq
set_option maxHeartbeats 4000000 in
set_option maxRecDepth 100000 in
theorem c_M_split_t1 (l : Launch) (D : va_G) (ad : Nat → Nat) (kd : Nat → ClassId) (g : Nat → Nat → Int32) (z : Nat → Int64) (v : Nat → Int32) (hlt9 : l.stackTraces = false) (nb : Nat) (hnb : v 2 = nI nb) (hb6 : nb ≤ 60) (nl : Nat) (hnl : v 3 = nI nl) (hl2 : nl ≤ 200) (x y : Int32) (hT : csT nb nl x y = 1) : TH l y_M_split (.code y_M_split b_M_split 5 (some .int) :: TB) ({ frames := 6, cells := 1, slots := 6, locals := 82 } : Room) [.ref (ad 0), .int x, .int y] D classes (wA ad kd g z v) (tA kd) xStr "java/lang/IllegalArgumentException" := by
  refine th_of (by decide +kernel) (Nat.le_of_ble_eq_true rfl) ?_
  intro p e s m args below meth c Q ls N hx hb hml htb hown hP hK hX hnoh hlocks hl hq
  have hl : lv_has ls 5 [(0, .ref (ad 0)), (1, .int x), (2, .int y)] := hl
  refine lv_aload_n hx hb d_M_split_0 rfl (lv_at hl 0 rfl) ?_
  refine va_get (D := D) (ci := 0) (v := .ref (ad 1)) (C := R_M) (T := F_M) (N := 5) hx hb htb iw_M hown hK hP 0 rfl rfl 0 (by decide) (htb _ mw_161) (fun _ h9 => h9) rfl d_M_split_1 ?_
  refine lv_iload_n hx hb d_M_split_4 rfl (lv_at hl 1 rfl) ?_
  refine rdV (As := [.int x]) (rest := []) (b := ad 1) ⟨hx, hb, hml, hown, htb⟩ (c_B_has l D ad kd g z v nb hnb hb6 x) (cwV (C := R_B) 1 htb (gV tb_good mw_185 mw_186 mw_187 mw_28 mw_188) rfl rfl rfl (by decide +kernel) ⟨Nat.le_of_ble_eq_true rfl, Nat.le_of_ble_eq_true rfl⟩) hP hK (va_recv hK hP (ci := 1) (q0 := 1) rfl rfl) rfl hl.1 rfl (lv_room (Nat.le_of_ble_eq_true rfl)) d_M_split_5 ⟨Nat.zero_le _, Nat.zero_le _⟩ ?_
  refine lv_if_eq (tgt := 16) hx hb d_M_split_8 (by decide) (fun c1 => ?_) (fun c1 => ?_)
  · replace c1 := bI_f c1
    exact th_row (own := R_M) (cls := "java/lang/IllegalArgumentException") (text := "no such bill, or less than a kilogram") (names := ["java/lang/RuntimeException", "java/lang/Exception"]) hx hb hlt9 hown (by decide +kernel) (by decide +kernel) (htb _ mw_295) (htb _ mw_35) (hX.atoms htb at_IA) (hX.2.2.2 (152, "no such bill, or less than a kilogram") (by decide)) (hl.1.trans hml.symm) d_M_split_16 d_M_split_19 d_M_split_20 d_M_split_22 d_M_split_25 hnoh (by decide) (by decide) (by decide) (by decide) hlocks hq
  · replace c1 := bI_t c1
    refine lv_iload_n hx hb d_M_split_11 rfl (lv_at hl 2 rfl) ?_
    refine lv_iconst (v := 1) hx hb d_M_split_12 (by decide) ?_
    refine lv_icmp_ge (tgt := 26) hx hb d_M_split_13 (by decide) (fun c2 => ?_) (fun c2 => ?_)
    · refine lv_aload_n hx hb d_M_split_26 rfl (lv_at hl 0 rfl) ?_
      refine va_get (D := D) (ci := 0) (v := .ref (ad 1)) (C := R_M) (T := F_M) (N := 5) hx hb htb iw_M hown hK hP 0 rfl rfl 0 (by decide) (htb _ mw_161) (fun _ h9 => h9) rfl d_M_split_27 ?_
      refine rdV (As := []) (rest := []) (b := ad 1) ⟨hx, hb, hml, hown, htb⟩ (c_B_isFull l D ad kd g z v nb hnb hb6) (cwV (C := R_B) 0 htb (gV tb_good mw_364 mw_365 mw_366 mw_28 mw_367) rfl rfl rfl (by decide +kernel) ⟨Nat.le_of_ble_eq_true rfl, Nat.le_of_ble_eq_true rfl⟩) hP hK (va_recv hK hP (ci := 1) (q0 := 1) rfl rfl) rfl hl.1 rfl (lv_room (Nat.le_of_ble_eq_true rfl)) d_M_split_30 ⟨Nat.zero_le _, Nat.zero_le _⟩ ?_
      refine lv_if_ne (tgt := 46) hx hb d_M_split_33 (by decide) (fun c3 => ?_) (fun c3 => ?_)
      · replace c3 := bI_t c3
        exact absurd hT (by simp [csT, c1, c2, c3])
      · replace c3 := bI_f c3
        refine lv_aload_n hx hb d_M_split_36 rfl (lv_at hl 0 rfl) ?_
        refine va_get (D := D) (ci := 0) (v := .ref (ad 9)) (C := R_M) (T := F_M) (N := 5) hx hb htb iw_M hown hK hP 0 rfl rfl 1 (by decide) (htb _ mw_162) (fun _ h9 => h9) rfl d_M_split_37 ?_
        refine rdV (As := []) (rest := []) (b := ad 9) ⟨hx, hb, hml, hown, htb⟩ (c_N_isFull l D ad kd g z v nl hnl hl2) (cwV (C := R_N) 0 htb (gV tb_good mw_409 mw_410 mw_411 mw_29 mw_412) rfl rfl rfl (by decide +kernel) ⟨Nat.le_of_ble_eq_true rfl, Nat.le_of_ble_eq_true rfl⟩) hP hK (va_recv hK hP (ci := 2) (q0 := 9) rfl rfl) rfl hl.1 rfl (lv_room (Nat.le_of_ble_eq_true rfl)) d_M_split_40 ⟨Nat.zero_le _, Nat.zero_le _⟩ ?_
        refine lv_if_eq (tgt := 56) hx hb d_M_split_43 (by decide) (fun c4 => ?_) (fun c4 => ?_)
        · replace c4 := bI_f c4
          exact absurd hT (by simp [csT, c1, c2, c3, c4])
        · replace c4 := bI_t c4
          exact absurd hT (by simp [csT, c1, c2, c3, c4])
    · exact th_row (own := R_M) (cls := "java/lang/IllegalArgumentException") (text := "no such bill, or less than a kilogram") (names := ["java/lang/RuntimeException", "java/lang/Exception"]) hx hb hlt9 hown (by decide +kernel) (by decide +kernel) (htb _ mw_295) (htb _ mw_35) (hX.atoms htb at_IA) (hX.2.2.2 (152, "no such bill, or less than a kilogram") (by decide)) (hl.1.trans hml.symm) d_M_split_16 d_M_split_19 d_M_split_20 d_M_split_22 d_M_split_25 hnoh (by decide) (by decide) (by decide) (by decide) hlocks hq
set_option maxHeartbeats 4000000 in
set_option maxRecDepth 100000 in
theorem c_M_bill_t2 (l : Launch) (D : va_G) (ad : Nat → Nat) (kd : Nat → ClassId) (g : Nat → Nat → Int32) (z : Nat → Int64) (v : Nat → Int32) (hlt9 : l.stackTraces = false) (nb : Nat) (hnb : v 2 = nI nb) (hb6 : nb ≤ 60) (x y q : Int32) (hT : cbT nb x y = 2) : TH l y_M_bill (.code y_M_bill b_M_bill 4 (some .int) :: TB) ({ frames := 6, cells := 1, slots := 6, locals := 82 } : Room) [.ref (ad 0), .int x, .int y, .int q] D classes (wA ad kd g z v) (tA kd) xStr "java/lang/IllegalStateException" := by
  refine th_of (by decide +kernel) (Nat.le_of_ble_eq_true rfl) ?_
  intro p e s m args below meth c Q ls N hx hb hml htb hown hP hK hX hnoh hlocks hl hq
  have hl : lv_has ls 4 [(0, .ref (ad 0)), (1, .int x), (2, .int y), (3, .int q)] := hl
  refine lv_iload_n hx hb d_M_bill_0 rfl (lv_at hl 1 rfl) ?_
  refine rdS (As := [.int x]) (rest := []) ⟨hx, hb, hml, hown, htb⟩ (c_M_isCall l D (wA ad kd g z v) (tA kd) x) (va_cwS 1 htb (gS tb_good mw_227 mw_228 mw_27 mw_229) rfl rfl rfl (by decide +kernel) ⟨Nat.le_of_ble_eq_true rfl, Nat.le_of_ble_eq_true rfl⟩) hP hK rfl hl.1 rfl (lv_room (Nat.le_of_ble_eq_true rfl)) d_M_bill_1 ⟨Nat.zero_le _, Nat.zero_le _⟩ ?_
  refine lv_if_eq (tgt := 14) hx hb d_M_bill_4 (by decide) (fun c1 => ?_) (fun c1 => ?_)
  · replace c1 := bI_f c1
    exact absurd hT (by simp [cbT, c1])
  · replace c1 := bI_t c1
    refine lv_iload_n hx hb d_M_bill_7 rfl (lv_at hl 2 rfl) ?_
    refine rdS (As := [.int y]) (rest := []) ⟨hx, hb, hml, hown, htb⟩ (c_M_isNumber l D (wA ad kd g z v) (tA kd) y) (va_cwS 1 htb (gS tb_good mw_291 mw_292 mw_27 mw_293) rfl rfl rfl (by decide +kernel) ⟨Nat.le_of_ble_eq_true rfl, Nat.le_of_ble_eq_true rfl⟩) hP hK rfl hl.1 rfl (lv_room (Nat.le_of_ble_eq_true rfl)) d_M_bill_8 ⟨Nat.zero_le _, Nat.zero_le _⟩ ?_
    refine lv_if_ne (tgt := 24) hx hb d_M_bill_11 (by decide) (fun c2 => ?_) (fun c2 => ?_)
    · replace c2 := bI_t c2
      refine lv_aload_n hx hb d_M_bill_24 rfl (lv_at hl 0 rfl) ?_
      refine va_get (D := D) (ci := 0) (v := .ref (ad 1)) (C := R_M) (T := F_M) (N := 5) hx hb htb iw_M hown hK hP 0 rfl rfl 0 (by decide) (htb _ mw_161) (fun _ h9 => h9) rfl d_M_bill_25 ?_
      refine rdV (As := []) (rest := []) (b := ad 1) ⟨hx, hb, hml, hown, htb⟩ (c_B_isFull l D ad kd g z v nb hnb hb6) (cwV (C := R_B) 0 htb (gV tb_good mw_364 mw_365 mw_366 mw_28 mw_367) rfl rfl rfl (by decide +kernel) ⟨Nat.le_of_ble_eq_true rfl, Nat.le_of_ble_eq_true rfl⟩) hP hK (va_recv hK hP (ci := 1) (q0 := 1) rfl rfl) rfl hl.1 rfl (lv_room (Nat.le_of_ble_eq_true rfl)) d_M_bill_28 ⟨Nat.zero_le _, Nat.zero_le _⟩ ?_
      refine lv_if_eq (tgt := 44) hx hb d_M_bill_31 (by decide) (fun c3 => ?_) (fun c3 => ?_)
      · replace c3 := bI_f c3
        exact absurd hT (by simp [cbT, c1, c2, c3])
      · replace c3 := bI_t c3
        exact th_row (own := R_M) (cls := "java/lang/IllegalStateException") (text := "all bills are there") (names := ["java/lang/RuntimeException", "java/lang/Exception"]) hx hb hlt9 hown (by decide +kernel) (by decide +kernel) (htb _ mw_368) (htb _ mw_36) (hX.atoms htb at_IS) (hX.2.2.2 (57, "all bills are there") (by decide)) (hl.1.trans hml.symm) d_M_bill_34 d_M_bill_37 d_M_bill_38 d_M_bill_40 d_M_bill_43 hnoh (by decide) (by decide) (by decide) (by decide) hlocks hq
    · replace c2 := bI_f c2
      exact absurd hT (by simp [cbT, c1, c2])
set_option maxHeartbeats 4000000 in
set_option maxRecDepth 100000 in
theorem c_M_line_t2 (l : Launch) (D : va_G) (ad : Nat → Nat) (kd : Nat → ClassId) (g : Nat → Nat → Int32) (z : Nat → Int64) (v : Nat → Int32) (hlt9 : l.stackTraces = false) (nb : Nat) (hnb : v 2 = nI nb) (hb6 : nb ≤ 60) (nl : Nat) (hnl : v 3 = nI nl) (hl2 : nl ≤ 200) (x y q : Int32) (hT : clT nb nl x y q = 2) : TH l y_M_line (.code y_M_line b_M_line 4 (some .int) :: TB) ({ frames := 6, cells := 1, slots := 6, locals := 82 } : Room) [.ref (ad 0), .int x, .int y, .int q] D classes (wA ad kd g z v) (tA kd) xStr "java/lang/IllegalStateException" := by
  refine th_of (by decide +kernel) (Nat.le_of_ble_eq_true rfl) ?_
  intro p e s m args below meth c Q ls N hx hb hml htb hown hP hK hX hnoh hlocks hl hq
  have hl : lv_has ls 4 [(0, .ref (ad 0)), (1, .int x), (2, .int y), (3, .int q)] := hl
  refine lv_aload_n hx hb d_M_line_0 rfl (lv_at hl 0 rfl) ?_
  refine va_get (D := D) (ci := 0) (v := .ref (ad 1)) (C := R_M) (T := F_M) (N := 5) hx hb htb iw_M hown hK hP 0 rfl rfl 0 (by decide) (htb _ mw_161) (fun _ h9 => h9) rfl d_M_line_1 ?_
  refine lv_iload_n hx hb d_M_line_4 rfl (lv_at hl 1 rfl) ?_
  refine rdV (As := [.int x]) (rest := []) (b := ad 1) ⟨hx, hb, hml, hown, htb⟩ (c_B_has l D ad kd g z v nb hnb hb6 x) (cwV (C := R_B) 1 htb (gV tb_good mw_185 mw_186 mw_187 mw_28 mw_188) rfl rfl rfl (by decide +kernel) ⟨Nat.le_of_ble_eq_true rfl, Nat.le_of_ble_eq_true rfl⟩) hP hK (va_recv hK hP (ci := 1) (q0 := 1) rfl rfl) rfl hl.1 rfl (lv_room (Nat.le_of_ble_eq_true rfl)) d_M_line_5 ⟨Nat.zero_le _, Nat.zero_le _⟩ ?_
  refine lv_if_eq (tgt := 29) hx hb d_M_line_8 (by decide) (fun c1 => ?_) (fun c1 => ?_)
  · replace c1 := bI_f c1
    exact absurd hT (by simp [clT, c1])
  · replace c1 := bI_t c1
    refine lv_iload_n hx hb d_M_line_11 rfl (lv_at hl 2 rfl) ?_
    refine rdS (As := [.int y]) (rest := []) ⟨hx, hb, hml, hown, htb⟩ (c_M_isWeight l D (wA ad kd g z v) (tA kd) y) (va_cwS 1 htb (gS tb_good mw_219 mw_220 mw_27 mw_221) rfl rfl rfl (by decide +kernel) ⟨Nat.le_of_ble_eq_true rfl, Nat.le_of_ble_eq_true rfl⟩) hP hK rfl hl.1 rfl (lv_room (Nat.le_of_ble_eq_true rfl)) d_M_line_12 ⟨Nat.zero_le _, Nat.zero_le _⟩ ?_
    refine lv_if_eq (tgt := 29) hx hb d_M_line_15 (by decide) (fun c2 => ?_) (fun c2 => ?_)
    · replace c2 := bI_f c2
      exact absurd hT (by simp [clT, c1, c2])
    · replace c2 := bI_t c2
      refine lv_iload_n hx hb d_M_line_18 rfl (lv_at hl 3 rfl) ?_
      refine lv_if_lt (tgt := 29) hx hb d_M_line_19 (by decide) (fun c3 => ?_) (fun c3 => ?_)
      · exact absurd hT (by simp [clT, c1, c2, c3])
      · refine lv_iload_n hx hb d_M_line_22 rfl (lv_at hl 3 rfl) ?_
        refine lv_sipush (v := 10000) hx hb d_M_line_23 (by decide) ?_
        refine lv_icmp_le (tgt := 39) hx hb d_M_line_26 (by decide) (fun c4 => ?_) (fun c4 => ?_)
        · refine lv_aload_n hx hb d_M_line_39 rfl (lv_at hl 0 rfl) ?_
          refine va_get (D := D) (ci := 0) (v := .ref (ad 9)) (C := R_M) (T := F_M) (N := 5) hx hb htb iw_M hown hK hP 0 rfl rfl 1 (by decide) (htb _ mw_162) (fun _ h9 => h9) rfl d_M_line_40 ?_
          refine rdV (As := []) (rest := []) (b := ad 9) ⟨hx, hb, hml, hown, htb⟩ (c_N_isFull l D ad kd g z v nl hnl hl2) (cwV (C := R_N) 0 htb (gV tb_good mw_409 mw_410 mw_411 mw_29 mw_412) rfl rfl rfl (by decide +kernel) ⟨Nat.le_of_ble_eq_true rfl, Nat.le_of_ble_eq_true rfl⟩) hP hK (va_recv hK hP (ci := 2) (q0 := 9) rfl rfl) rfl hl.1 rfl (lv_room (Nat.le_of_ble_eq_true rfl)) d_M_line_43 ⟨Nat.zero_le _, Nat.zero_le _⟩ ?_
          refine lv_if_eq (tgt := 59) hx hb d_M_line_46 (by decide) (fun c5 => ?_) (fun c5 => ?_)
          · replace c5 := bI_f c5
            exact absurd hT (by simp [clT, c1, c2, c3, c4, c5])
          · replace c5 := bI_t c5
            exact th_row (own := R_M) (cls := "java/lang/IllegalStateException") (text := "all lines are there") (names := ["java/lang/RuntimeException", "java/lang/Exception"]) hx hb hlt9 hown (by decide +kernel) (by decide +kernel) (htb _ mw_368) (htb _ mw_36) (hX.atoms htb at_IS) (hX.2.2.2 (80, "all lines are there") (by decide)) (hl.1.trans hml.symm) d_M_line_49 d_M_line_52 d_M_line_53 d_M_line_55 d_M_line_58 hnoh (by decide) (by decide) (by decide) (by decide) hlocks hq
        · exact absurd hT (by simp [clT, c1, c2, c3, c4])
set_option maxHeartbeats 4000000 in
set_option maxRecDepth 100000 in
theorem c_M_box_t2 (l : Launch) (D : va_G) (ad : Nat → Nat) (kd : Nat → ClassId) (g : Nat → Nat → Int32) (z : Nat → Int64) (v : Nat → Int32) (hlt9 : l.stackTraces = false) (nx : Nat) (hnx : v 4 = nI nx) (hx6 : nx ≤ 60) (x y q : Int32) (hT : cxT nx x y q = 2) : TH l y_M_box (.code y_M_box b_M_box 4 (some .int) :: TB) ({ frames := 6, cells := 1, slots := 6, locals := 82 } : Room) [.ref (ad 0), .int x, .int y, .int q] D classes (wA ad kd g z v) (tA kd) xStr "java/lang/IllegalStateException" := by
  refine th_of (by decide +kernel) (Nat.le_of_ble_eq_true rfl) ?_
  intro p e s m args below meth c Q ls N hx hb hml htb hown hP hK hX hnoh hlocks hl hq
  have hl : lv_has ls 4 [(0, .ref (ad 0)), (1, .int x), (2, .int y), (3, .int q)] := hl
  refine lv_iload_n hx hb d_M_box_0 rfl (lv_at hl 1 rfl) ?_
  refine rdS (As := [.int x]) (rest := []) ⟨hx, hb, hml, hown, htb⟩ (c_M_isCall l D (wA ad kd g z v) (tA kd) x) (va_cwS 1 htb (gS tb_good mw_227 mw_228 mw_27 mw_229) rfl rfl rfl (by decide +kernel) ⟨Nat.le_of_ble_eq_true rfl, Nat.le_of_ble_eq_true rfl⟩) hP hK rfl hl.1 rfl (lv_room (Nat.le_of_ble_eq_true rfl)) d_M_box_1 ⟨Nat.zero_le _, Nat.zero_le _⟩ ?_
  refine lv_if_eq (tgt := 21) hx hb d_M_box_4 (by decide) (fun c1 => ?_) (fun c1 => ?_)
  · replace c1 := bI_f c1
    exact absurd hT (by simp [cxT, c1])
  · replace c1 := bI_t c1
    refine lv_iload_n hx hb d_M_box_7 rfl (lv_at hl 2 rfl) ?_
    refine rdS (As := [.int y]) (rest := []) ⟨hx, hb, hml, hown, htb⟩ (c_M_isNumber l D (wA ad kd g z v) (tA kd) y) (va_cwS 1 htb (gS tb_good mw_291 mw_292 mw_27 mw_293) rfl rfl rfl (by decide +kernel) ⟨Nat.le_of_ble_eq_true rfl, Nat.le_of_ble_eq_true rfl⟩) hP hK rfl hl.1 rfl (lv_room (Nat.le_of_ble_eq_true rfl)) d_M_box_8 ⟨Nat.zero_le _, Nat.zero_le _⟩ ?_
    refine lv_if_eq (tgt := 21) hx hb d_M_box_11 (by decide) (fun c2 => ?_) (fun c2 => ?_)
    · replace c2 := bI_f c2
      exact absurd hT (by simp [cxT, c1, c2])
    · replace c2 := bI_t c2
      refine lv_iload_n hx hb d_M_box_14 rfl (lv_at hl 3 rfl) ?_
      refine rdS (As := [.int q]) (rest := []) ⟨hx, hb, hml, hown, htb⟩ (c_M_isWeight l D (wA ad kd g z v) (tA kd) q) (va_cwS 1 htb (gS tb_good mw_219 mw_220 mw_27 mw_221) rfl rfl rfl (by decide +kernel) ⟨Nat.le_of_ble_eq_true rfl, Nat.le_of_ble_eq_true rfl⟩) hP hK rfl hl.1 rfl (lv_room (Nat.le_of_ble_eq_true rfl)) d_M_box_15 ⟨Nat.zero_le _, Nat.zero_le _⟩ ?_
      refine lv_if_ne (tgt := 31) hx hb d_M_box_18 (by decide) (fun c3 => ?_) (fun c3 => ?_)
      · replace c3 := bI_t c3
        refine lv_aload_n hx hb d_M_box_31 rfl (lv_at hl 0 rfl) ?_
        refine va_get (D := D) (ci := 0) (v := .ref (ad 15)) (C := R_M) (T := F_M) (N := 5) hx hb htb iw_M hown hK hP 0 rfl rfl 2 (by decide) (htb _ mw_163) (fun _ h9 => h9) rfl d_M_box_32 ?_
        refine rdV (As := []) (rest := []) (b := ad 15) ⟨hx, hb, hml, hown, htb⟩ (c_X_isFull l D ad kd g z v nx hnx hx6) (cwV (C := R_X) 0 htb (gV tb_good mw_426 mw_427 mw_428 mw_30 mw_429) rfl rfl rfl (by decide +kernel) ⟨Nat.le_of_ble_eq_true rfl, Nat.le_of_ble_eq_true rfl⟩) hP hK (va_recv hK hP (ci := 3) (q0 := 15) rfl rfl) rfl hl.1 rfl (lv_room (Nat.le_of_ble_eq_true rfl)) d_M_box_35 ⟨Nat.zero_le _, Nat.zero_le _⟩ ?_
        refine lv_if_eq (tgt := 51) hx hb d_M_box_38 (by decide) (fun c4 => ?_) (fun c4 => ?_)
        · replace c4 := bI_f c4
          exact absurd hT (by simp [cxT, c1, c2, c3, c4])
        · replace c4 := bI_t c4
          exact th_row (own := R_M) (cls := "java/lang/IllegalStateException") (text := "all boxes are there") (names := ["java/lang/RuntimeException", "java/lang/Exception"]) hx hb hlt9 hown (by decide +kernel) (by decide +kernel) (htb _ mw_368) (htb _ mw_36) (hX.atoms htb at_IS) (hX.2.2.2 (88, "all boxes are there") (by decide)) (hl.1.trans hml.symm) d_M_box_41 d_M_box_44 d_M_box_45 d_M_box_47 d_M_box_50 hnoh (by decide) (by decide) (by decide) (by decide) hlocks hq
      · replace c3 := bI_f c3
        exact absurd hT (by simp [cxT, c1, c2, c3])
set_option maxHeartbeats 4000000 in
set_option maxRecDepth 100000 in
theorem c_M_split_t2 (l : Launch) (D : va_G) (ad : Nat → Nat) (kd : Nat → ClassId) (g : Nat → Nat → Int32) (z : Nat → Int64) (v : Nat → Int32) (hlt9 : l.stackTraces = false) (nb : Nat) (hnb : v 2 = nI nb) (hb6 : nb ≤ 60) (nl : Nat) (hnl : v 3 = nI nl) (hl2 : nl ≤ 200) (x y : Int32) (hT : csT nb nl x y = 2) : TH l y_M_split (.code y_M_split b_M_split 5 (some .int) :: TB) ({ frames := 6, cells := 1, slots := 6, locals := 82 } : Room) [.ref (ad 0), .int x, .int y] D classes (wA ad kd g z v) (tA kd) xStr "java/lang/IllegalStateException" := by
  refine th_of (by decide +kernel) (Nat.le_of_ble_eq_true rfl) ?_
  intro p e s m args below meth c Q ls N hx hb hml htb hown hP hK hX hnoh hlocks hl hq
  have hl : lv_has ls 5 [(0, .ref (ad 0)), (1, .int x), (2, .int y)] := hl
  refine lv_aload_n hx hb d_M_split_0 rfl (lv_at hl 0 rfl) ?_
  refine va_get (D := D) (ci := 0) (v := .ref (ad 1)) (C := R_M) (T := F_M) (N := 5) hx hb htb iw_M hown hK hP 0 rfl rfl 0 (by decide) (htb _ mw_161) (fun _ h9 => h9) rfl d_M_split_1 ?_
  refine lv_iload_n hx hb d_M_split_4 rfl (lv_at hl 1 rfl) ?_
  refine rdV (As := [.int x]) (rest := []) (b := ad 1) ⟨hx, hb, hml, hown, htb⟩ (c_B_has l D ad kd g z v nb hnb hb6 x) (cwV (C := R_B) 1 htb (gV tb_good mw_185 mw_186 mw_187 mw_28 mw_188) rfl rfl rfl (by decide +kernel) ⟨Nat.le_of_ble_eq_true rfl, Nat.le_of_ble_eq_true rfl⟩) hP hK (va_recv hK hP (ci := 1) (q0 := 1) rfl rfl) rfl hl.1 rfl (lv_room (Nat.le_of_ble_eq_true rfl)) d_M_split_5 ⟨Nat.zero_le _, Nat.zero_le _⟩ ?_
  refine lv_if_eq (tgt := 16) hx hb d_M_split_8 (by decide) (fun c1 => ?_) (fun c1 => ?_)
  · replace c1 := bI_f c1
    exact absurd hT (by simp [csT, c1])
  · replace c1 := bI_t c1
    refine lv_iload_n hx hb d_M_split_11 rfl (lv_at hl 2 rfl) ?_
    refine lv_iconst (v := 1) hx hb d_M_split_12 (by decide) ?_
    refine lv_icmp_ge (tgt := 26) hx hb d_M_split_13 (by decide) (fun c2 => ?_) (fun c2 => ?_)
    · refine lv_aload_n hx hb d_M_split_26 rfl (lv_at hl 0 rfl) ?_
      refine va_get (D := D) (ci := 0) (v := .ref (ad 1)) (C := R_M) (T := F_M) (N := 5) hx hb htb iw_M hown hK hP 0 rfl rfl 0 (by decide) (htb _ mw_161) (fun _ h9 => h9) rfl d_M_split_27 ?_
      refine rdV (As := []) (rest := []) (b := ad 1) ⟨hx, hb, hml, hown, htb⟩ (c_B_isFull l D ad kd g z v nb hnb hb6) (cwV (C := R_B) 0 htb (gV tb_good mw_364 mw_365 mw_366 mw_28 mw_367) rfl rfl rfl (by decide +kernel) ⟨Nat.le_of_ble_eq_true rfl, Nat.le_of_ble_eq_true rfl⟩) hP hK (va_recv hK hP (ci := 1) (q0 := 1) rfl rfl) rfl hl.1 rfl (lv_room (Nat.le_of_ble_eq_true rfl)) d_M_split_30 ⟨Nat.zero_le _, Nat.zero_le _⟩ ?_
      refine lv_if_ne (tgt := 46) hx hb d_M_split_33 (by decide) (fun c3 => ?_) (fun c3 => ?_)
      · replace c3 := bI_t c3
        exact th_row (own := R_M) (cls := "java/lang/IllegalStateException") (text := "all bills or all lines are there") (names := ["java/lang/RuntimeException", "java/lang/Exception"]) hx hb hlt9 hown (by decide +kernel) (by decide +kernel) (htb _ mw_368) (htb _ mw_36) (hX.atoms htb at_IS) (hX.2.2.2 (154, "all bills or all lines are there") (by decide)) (hl.1.trans hml.symm) d_M_split_46 d_M_split_49 d_M_split_50 d_M_split_52 d_M_split_55 hnoh (by decide) (by decide) (by decide) (by decide) hlocks hq
      · replace c3 := bI_f c3
        refine lv_aload_n hx hb d_M_split_36 rfl (lv_at hl 0 rfl) ?_
        refine va_get (D := D) (ci := 0) (v := .ref (ad 9)) (C := R_M) (T := F_M) (N := 5) hx hb htb iw_M hown hK hP 0 rfl rfl 1 (by decide) (htb _ mw_162) (fun _ h9 => h9) rfl d_M_split_37 ?_
        refine rdV (As := []) (rest := []) (b := ad 9) ⟨hx, hb, hml, hown, htb⟩ (c_N_isFull l D ad kd g z v nl hnl hl2) (cwV (C := R_N) 0 htb (gV tb_good mw_409 mw_410 mw_411 mw_29 mw_412) rfl rfl rfl (by decide +kernel) ⟨Nat.le_of_ble_eq_true rfl, Nat.le_of_ble_eq_true rfl⟩) hP hK (va_recv hK hP (ci := 2) (q0 := 9) rfl rfl) rfl hl.1 rfl (lv_room (Nat.le_of_ble_eq_true rfl)) d_M_split_40 ⟨Nat.zero_le _, Nat.zero_le _⟩ ?_
        refine lv_if_eq (tgt := 56) hx hb d_M_split_43 (by decide) (fun c4 => ?_) (fun c4 => ?_)
        · replace c4 := bI_f c4
          exact absurd hT (by simp [csT, c1, c2, c3, c4])
        · replace c4 := bI_t c4
          exact th_row (own := R_M) (cls := "java/lang/IllegalStateException") (text := "all bills or all lines are there") (names := ["java/lang/RuntimeException", "java/lang/Exception"]) hx hb hlt9 hown (by decide +kernel) (by decide +kernel) (htb _ mw_368) (htb _ mw_36) (hX.atoms htb at_IS) (hX.2.2.2 (154, "all bills or all lines are there") (by decide)) (hl.1.trans hml.symm) d_M_split_46 d_M_split_49 d_M_split_50 d_M_split_52 d_M_split_55 hnoh (by decide) (by decide) (by decide) (by decide) hlocks hq
    · exact absurd hT (by simp [csT, c1, c2])
set_option maxHeartbeats 4000000 in
set_option maxRecDepth 100000 in
theorem c_M_amend_t1 (l : Launch) (D : va_G) (ad : Nat → Nat) (kd : Nat → ClassId) (g : Nat → Nat → Int32) (z : Nat → Int64) (v : Nat → Int32) (hlt9 : l.stackTraces = false) (nb : Nat) (hnb : v 2 = nI nb) (hb6 : nb ≤ 60) (nl : Nat) (hnl : v 3 = nI nl) (hl2 : nl ≤ 200) (x y q : Int32) (hT : caT g nb nl x y q = 1) : TH l y_M_amend (.code y_M_amend b_M_amend 7 (some .int) :: TB) ({ frames := 6, cells := 1, slots := 6, locals := 82 } : Room) [.ref (ad 0), .int x, .int y, .int q] D classes (wA ad kd g z v) (tA kd) xStr "java/lang/IllegalArgumentException" := by
  refine th_of (by decide +kernel) (Nat.le_of_ble_eq_true rfl) ?_
  intro p e s m args below meth c Q ls N hx hb hml htb hown hP hK hX hnoh hlocks hl hq
  have hl : lv_has ls 7 [(0, .ref (ad 0)), (1, .int x), (2, .int y), (3, .int q)] := hl
  refine lv_aload_n hx hb d_M_amend_0 rfl (lv_at hl 0 rfl) ?_
  refine va_get (D := D) (ci := 0) (v := .ref (ad 1)) (C := R_M) (T := F_M) (N := 5) hx hb htb iw_M hown hK hP 0 rfl rfl 0 (by decide) (htb _ mw_161) (fun _ h9 => h9) rfl d_M_amend_1 ?_
  refine lv_iload_n hx hb d_M_amend_4 rfl (lv_at hl 1 rfl) ?_
  refine rdV (As := [.int x]) (rest := []) (b := ad 1) ⟨hx, hb, hml, hown, htb⟩ (c_B_has l D ad kd g z v nb hnb hb6 x) (cwV (C := R_B) 1 htb (gV tb_good mw_185 mw_186 mw_187 mw_28 mw_188) rfl rfl rfl (by decide +kernel) ⟨Nat.le_of_ble_eq_true rfl, Nat.le_of_ble_eq_true rfl⟩) hP hK (va_recv hK hP (ci := 1) (q0 := 1) rfl rfl) rfl hl.1 rfl (lv_room (Nat.le_of_ble_eq_true rfl)) d_M_amend_5 ⟨Nat.zero_le _, Nat.zero_le _⟩ ?_
  refine lv_if_eq (tgt := 23) hx hb d_M_amend_8 (by decide) (fun c1 => ?_) (fun c1 => ?_)
  · replace c1 := bI_f c1
    refine lv_iconst (v := (-1)) hx hb d_M_amend_23 (by decide) ?_
    refine lv_istore (lv' := [(4, .int (-1)), (0, .ref (ad 0)), (1, .int x), (2, .int y), (3, .int q)]) hx hb d_M_amend_24 hl (by decide) rfl (fun ls hl => ?_)
    refine lv_iload hx hb d_M_amend_26 (lv_at hl 0 rfl) ?_
    refine lv_iconst (v := (-1)) hx hb d_M_amend_28 (by decide) ?_
    refine lv_icmp_eq (tgt := 39) hx hb d_M_amend_29 (by decide) (fun c2 => ?_) (fun c2 => ?_)
    · exact th_row (own := R_M) (cls := "java/lang/IllegalArgumentException") (text := "no such bill, line or weight") (names := ["java/lang/RuntimeException", "java/lang/Exception"]) hx hb hlt9 hown (by decide +kernel) (by decide +kernel) (htb _ mw_295) (htb _ mw_35) (hX.atoms htb at_IA) (hX.2.2.2 (125, "no such bill, line or weight") (by decide)) (hl.1.trans hml.symm) d_M_amend_39 d_M_amend_42 d_M_amend_43 d_M_amend_45 d_M_amend_48 hnoh (by decide) (by decide) (by decide) (by decide) hlocks hq
    · exact absurd c2 (by decide)
  · replace c1 := bI_t c1
    refine lv_aload_n hx hb d_M_amend_11 rfl (lv_at hl 0 rfl) ?_
    refine va_get (D := D) (ci := 0) (v := .ref (ad 9)) (C := R_M) (T := F_M) (N := 5) hx hb htb iw_M hown hK hP 0 rfl rfl 1 (by decide) (htb _ mw_162) (fun _ h9 => h9) rfl d_M_amend_12 ?_
    refine lv_iload_n hx hb d_M_amend_15 rfl (lv_at hl 1 rfl) ?_
    refine lv_iload_n hx hb d_M_amend_16 rfl (lv_at hl 2 rfl) ?_
    refine rdV (As := [.int x, .int y]) (rest := []) (b := ad 9) ⟨hx, hb, hml, hown, htb⟩ (c_N_rowOf l D ad kd g z v nl hnl hl2 x y) (cwV (C := R_N) 2 htb (gV tb_good mw_446 mw_447 mw_448 mw_29 mw_449) rfl rfl rfl (by decide +kernel) ⟨Nat.le_of_ble_eq_true rfl, Nat.le_of_ble_eq_true rfl⟩) hP hK (va_recv hK hP (ci := 2) (q0 := 9) rfl rfl) rfl hl.1 rfl (lv_room (Nat.le_of_ble_eq_true rfl)) d_M_amend_17 ⟨Nat.zero_le _, Nat.zero_le _⟩ ?_
    refine lv_goto (tgt := 24) hx hb d_M_amend_20 (by decide) ?_
    refine lv_istore (lv' := [(4, .int (rowN g nl x y)), (0, .ref (ad 0)), (1, .int x), (2, .int y), (3, .int q)]) hx hb d_M_amend_24 hl (by decide) rfl (fun ls hl => ?_)
    refine lv_iload hx hb d_M_amend_26 (lv_at hl 0 rfl) ?_
    refine lv_iconst (v := (-1)) hx hb d_M_amend_28 (by decide) ?_
    refine lv_icmp_eq (tgt := 39) hx hb d_M_amend_29 (by decide) (fun c3 => ?_) (fun c3 => ?_)
    · exact th_row (own := R_M) (cls := "java/lang/IllegalArgumentException") (text := "no such bill, line or weight") (names := ["java/lang/RuntimeException", "java/lang/Exception"]) hx hb hlt9 hown (by decide +kernel) (by decide +kernel) (htb _ mw_295) (htb _ mw_35) (hX.atoms htb at_IA) (hX.2.2.2 (125, "no such bill, line or weight") (by decide)) (hl.1.trans hml.symm) d_M_amend_39 d_M_amend_42 d_M_amend_43 d_M_amend_45 d_M_amend_48 hnoh (by decide) (by decide) (by decide) (by decide) hlocks hq
    · refine lv_iload_n hx hb d_M_amend_32 rfl (lv_at hl 4 rfl) ?_
      refine rdS (As := [.int q]) (rest := []) ⟨hx, hb, hml, hown, htb⟩ (c_M_isWeight l D (wA ad kd g z v) (tA kd) q) (va_cwS 1 htb (gS tb_good mw_219 mw_220 mw_27 mw_221) rfl rfl rfl (by decide +kernel) ⟨Nat.le_of_ble_eq_true rfl, Nat.le_of_ble_eq_true rfl⟩) hP hK rfl hl.1 rfl (lv_room (Nat.le_of_ble_eq_true rfl)) d_M_amend_33 ⟨Nat.zero_le _, Nat.zero_le _⟩ ?_
      refine lv_if_ne (tgt := 49) hx hb d_M_amend_36 (by decide) (fun c4 => ?_) (fun c4 => ?_)
      · replace c4 := bI_t c4
        exact absurd hT (by simp [caT, c1, c3, c4])
      · replace c4 := bI_f c4
        exact th_row (own := R_M) (cls := "java/lang/IllegalArgumentException") (text := "no such bill, line or weight") (names := ["java/lang/RuntimeException", "java/lang/Exception"]) hx hb hlt9 hown (by decide +kernel) (by decide +kernel) (htb _ mw_295) (htb _ mw_35) (hX.atoms htb at_IA) (hX.2.2.2 (125, "no such bill, line or weight") (by decide)) (hl.1.trans hml.symm) d_M_amend_39 d_M_amend_42 d_M_amend_43 d_M_amend_45 d_M_amend_48 hnoh (by decide) (by decide) (by decide) (by decide) hlocks hq
set_option maxHeartbeats 4000000 in
set_option maxRecDepth 100000 in
theorem c_M_title_t1 (l : Launch) (D : va_G) (ad : Nat → Nat) (kd : Nat → ClassId) (g : Nat → Nat → Int32) (z : Nat → Int64) (v : Nat → Int32) (hlt9 : l.stackTraces = false) (nb : Nat) (hnb : v 2 = nI nb) (hb6 : nb ≤ 60) (x y q : Int32) (hT : ctT nb x y q = 1) : TH l y_M_title (.code y_M_title b_M_title 4 (some .int) :: TB) ({ frames := 6, cells := 1, slots := 6, locals := 82 } : Room) [.ref (ad 0), .int x, .int y, .int q] D classes (wA ad kd g z v) (tA kd) xStr "java/lang/IllegalArgumentException" := by
  refine th_of (by decide +kernel) (Nat.le_of_ble_eq_true rfl) ?_
  intro p e s m args below meth c Q ls N hx hb hml htb hown hP hK hX hnoh hlocks hl hq
  have hl : lv_has ls 4 [(0, .ref (ad 0)), (1, .int x), (2, .int y), (3, .int q)] := hl
  refine lv_aload_n hx hb d_M_title_0 rfl (lv_at hl 0 rfl) ?_
  refine va_get (D := D) (ci := 0) (v := .ref (ad 1)) (C := R_M) (T := F_M) (N := 5) hx hb htb iw_M hown hK hP 0 rfl rfl 0 (by decide) (htb _ mw_161) (fun _ h9 => h9) rfl d_M_title_1 ?_
  refine lv_iload_n hx hb d_M_title_4 rfl (lv_at hl 1 rfl) ?_
  refine rdV (As := [.int x]) (rest := []) (b := ad 1) ⟨hx, hb, hml, hown, htb⟩ (c_B_has l D ad kd g z v nb hnb hb6 x) (cwV (C := R_B) 1 htb (gV tb_good mw_185 mw_186 mw_187 mw_28 mw_188) rfl rfl rfl (by decide +kernel) ⟨Nat.le_of_ble_eq_true rfl, Nat.le_of_ble_eq_true rfl⟩) hP hK (va_recv hK hP (ci := 1) (q0 := 1) rfl rfl) rfl hl.1 rfl (lv_room (Nat.le_of_ble_eq_true rfl)) d_M_title_5 ⟨Nat.zero_le _, Nat.zero_le _⟩ ?_
  refine lv_if_eq (tgt := 30) hx hb d_M_title_8 (by decide) (fun c1 => ?_) (fun c1 => ?_)
  · replace c1 := bI_f c1
    exact th_row (own := R_M) (cls := "java/lang/IllegalArgumentException") (text := "no such bill or holder, or both are one") (names := ["java/lang/RuntimeException", "java/lang/Exception"]) hx hb hlt9 hown (by decide +kernel) (by decide +kernel) (htb _ mw_295) (htb _ mw_35) (hX.atoms htb at_IA) (hX.2.2.2 (138, "no such bill or holder, or both are one") (by decide)) (hl.1.trans hml.symm) d_M_title_30 d_M_title_33 d_M_title_34 d_M_title_36 d_M_title_39 hnoh (by decide) (by decide) (by decide) (by decide) hlocks hq
  · replace c1 := bI_t c1
    refine lv_iload_n hx hb d_M_title_11 rfl (lv_at hl 2 rfl) ?_
    refine rdS (As := [.int y]) (rest := []) ⟨hx, hb, hml, hown, htb⟩ (c_M_isHolder l D (wA ad kd g z v) (tA kd) y) (va_cwS 1 htb (gS tb_good mw_465 mw_466 mw_27 mw_467) rfl rfl rfl (by decide +kernel) ⟨Nat.le_of_ble_eq_true rfl, Nat.le_of_ble_eq_true rfl⟩) hP hK rfl hl.1 rfl (lv_room (Nat.le_of_ble_eq_true rfl)) d_M_title_12 ⟨Nat.zero_le _, Nat.zero_le _⟩ ?_
    refine lv_if_eq (tgt := 30) hx hb d_M_title_15 (by decide) (fun c2 => ?_) (fun c2 => ?_)
    · replace c2 := bI_f c2
      exact th_row (own := R_M) (cls := "java/lang/IllegalArgumentException") (text := "no such bill or holder, or both are one") (names := ["java/lang/RuntimeException", "java/lang/Exception"]) hx hb hlt9 hown (by decide +kernel) (by decide +kernel) (htb _ mw_295) (htb _ mw_35) (hX.atoms htb at_IA) (hX.2.2.2 (138, "no such bill or holder, or both are one") (by decide)) (hl.1.trans hml.symm) d_M_title_30 d_M_title_33 d_M_title_34 d_M_title_36 d_M_title_39 hnoh (by decide) (by decide) (by decide) (by decide) hlocks hq
    · replace c2 := bI_t c2
      refine lv_iload_n hx hb d_M_title_18 rfl (lv_at hl 3 rfl) ?_
      refine rdS (As := [.int q]) (rest := []) ⟨hx, hb, hml, hown, htb⟩ (c_M_isHolder l D (wA ad kd g z v) (tA kd) q) (va_cwS 1 htb (gS tb_good mw_465 mw_466 mw_27 mw_467) rfl rfl rfl (by decide +kernel) ⟨Nat.le_of_ble_eq_true rfl, Nat.le_of_ble_eq_true rfl⟩) hP hK rfl hl.1 rfl (lv_room (Nat.le_of_ble_eq_true rfl)) d_M_title_19 ⟨Nat.zero_le _, Nat.zero_le _⟩ ?_
      refine lv_if_eq (tgt := 30) hx hb d_M_title_22 (by decide) (fun c3 => ?_) (fun c3 => ?_)
      · replace c3 := bI_f c3
        exact th_row (own := R_M) (cls := "java/lang/IllegalArgumentException") (text := "no such bill or holder, or both are one") (names := ["java/lang/RuntimeException", "java/lang/Exception"]) hx hb hlt9 hown (by decide +kernel) (by decide +kernel) (htb _ mw_295) (htb _ mw_35) (hX.atoms htb at_IA) (hX.2.2.2 (138, "no such bill or holder, or both are one") (by decide)) (hl.1.trans hml.symm) d_M_title_30 d_M_title_33 d_M_title_34 d_M_title_36 d_M_title_39 hnoh (by decide) (by decide) (by decide) (by decide) hlocks hq
      · replace c3 := bI_t c3
        refine lv_iload_n hx hb d_M_title_25 rfl (lv_at hl 2 rfl) ?_
        refine lv_iload_n hx hb d_M_title_26 rfl (lv_at hl 3 rfl) ?_
        refine lv_icmp_ne (tgt := 40) hx hb d_M_title_27 (by decide) (fun c4 => ?_) (fun c4 => ?_)
        · exact absurd hT (by simp [ctT, c1, c2, c3, c4])
        · exact th_row (own := R_M) (cls := "java/lang/IllegalArgumentException") (text := "no such bill or holder, or both are one") (names := ["java/lang/RuntimeException", "java/lang/Exception"]) hx hb hlt9 hown (by decide +kernel) (by decide +kernel) (htb _ mw_295) (htb _ mw_35) (hX.atoms htb at_IA) (hX.2.2.2 (138, "no such bill or holder, or both are one") (by decide)) (hl.1.trans hml.symm) d_M_title_30 d_M_title_33 d_M_title_34 d_M_title_36 d_M_title_39 hnoh (by decide) (by decide) (by decide) (by decide) hlocks hq
set_option maxHeartbeats 4000000 in
set_option maxRecDepth 100000 in
theorem c_M_order_t1 (l : Launch) (D : va_G) (ad : Nat → Nat) (kd : Nat → ClassId) (g : Nat → Nat → Int32) (z : Nat → Int64) (v : Nat → Int32) (hlt9 : l.stackTraces = false) (nb : Nat) (hnb : v 2 = nI nb) (hb6 : nb ≤ 60) (nx : Nat) (hnx : v 4 = nI nx) (hx6 : nx ≤ 60) (x y q : Int32) (hT : coT nb nx x y q = 1) : TH l y_M_order (.code y_M_order b_M_order 4 (some .int) :: TB) ({ frames := 6, cells := 1, slots := 6, locals := 82 } : Room) [.ref (ad 0), .int x, .int y, .int q] D classes (wA ad kd g z v) (tA kd) xStr "java/lang/IllegalArgumentException" := by
  refine th_of (by decide +kernel) (Nat.le_of_ble_eq_true rfl) ?_
  intro p e s m args below meth c Q ls N hx hb hml htb hown hP hK hX hnoh hlocks hl hq
  have hl : lv_has ls 4 [(0, .ref (ad 0)), (1, .int x), (2, .int y), (3, .int q)] := hl
  refine lv_aload_n hx hb d_M_order_0 rfl (lv_at hl 0 rfl) ?_
  refine va_get (D := D) (ci := 0) (v := .ref (ad 1)) (C := R_M) (T := F_M) (N := 5) hx hb htb iw_M hown hK hP 0 rfl rfl 0 (by decide) (htb _ mw_161) (fun _ h9 => h9) rfl d_M_order_1 ?_
  refine lv_iload_n hx hb d_M_order_4 rfl (lv_at hl 1 rfl) ?_
  refine rdV (As := [.int x]) (rest := []) (b := ad 1) ⟨hx, hb, hml, hown, htb⟩ (c_B_has l D ad kd g z v nb hnb hb6 x) (cwV (C := R_B) 1 htb (gV tb_good mw_185 mw_186 mw_187 mw_28 mw_188) rfl rfl rfl (by decide +kernel) ⟨Nat.le_of_ble_eq_true rfl, Nat.le_of_ble_eq_true rfl⟩) hP hK (va_recv hK hP (ci := 1) (q0 := 1) rfl rfl) rfl hl.1 rfl (lv_room (Nat.le_of_ble_eq_true rfl)) d_M_order_5 ⟨Nat.zero_le _, Nat.zero_le _⟩ ?_
  refine lv_if_eq (tgt := 29) hx hb d_M_order_8 (by decide) (fun c1 => ?_) (fun c1 => ?_)
  · replace c1 := bI_f c1
    exact th_row (own := R_M) (cls := "java/lang/IllegalArgumentException") (text := "no such bill, box or holder") (names := ["java/lang/RuntimeException", "java/lang/Exception"]) hx hb hlt9 hown (by decide +kernel) (by decide +kernel) (htb _ mw_295) (htb _ mw_35) (hX.atoms htb at_IA) (hX.2.2.2 (144, "no such bill, box or holder") (by decide)) (hl.1.trans hml.symm) d_M_order_29 d_M_order_32 d_M_order_33 d_M_order_35 d_M_order_38 hnoh (by decide) (by decide) (by decide) (by decide) hlocks hq
  · replace c1 := bI_t c1
    refine lv_aload_n hx hb d_M_order_11 rfl (lv_at hl 0 rfl) ?_
    refine va_get (D := D) (ci := 0) (v := .ref (ad 15)) (C := R_M) (T := F_M) (N := 5) hx hb htb iw_M hown hK hP 0 rfl rfl 2 (by decide) (htb _ mw_163) (fun _ h9 => h9) rfl d_M_order_12 ?_
    refine lv_iload_n hx hb d_M_order_15 rfl (lv_at hl 2 rfl) ?_
    refine rdV (As := [.int y]) (rest := []) (b := ad 15) ⟨hx, hb, hml, hown, htb⟩ (c_X_has l D ad kd g z v nx hnx hx6 y) (cwV (C := R_X) 1 htb (gV tb_good mw_181 mw_182 mw_183 mw_30 mw_184) rfl rfl rfl (by decide +kernel) ⟨Nat.le_of_ble_eq_true rfl, Nat.le_of_ble_eq_true rfl⟩) hP hK (va_recv hK hP (ci := 3) (q0 := 15) rfl rfl) rfl hl.1 rfl (lv_room (Nat.le_of_ble_eq_true rfl)) d_M_order_16 ⟨Nat.zero_le _, Nat.zero_le _⟩ ?_
    refine lv_if_eq (tgt := 29) hx hb d_M_order_19 (by decide) (fun c2 => ?_) (fun c2 => ?_)
    · replace c2 := bI_f c2
      exact th_row (own := R_M) (cls := "java/lang/IllegalArgumentException") (text := "no such bill, box or holder") (names := ["java/lang/RuntimeException", "java/lang/Exception"]) hx hb hlt9 hown (by decide +kernel) (by decide +kernel) (htb _ mw_295) (htb _ mw_35) (hX.atoms htb at_IA) (hX.2.2.2 (144, "no such bill, box or holder") (by decide)) (hl.1.trans hml.symm) d_M_order_29 d_M_order_32 d_M_order_33 d_M_order_35 d_M_order_38 hnoh (by decide) (by decide) (by decide) (by decide) hlocks hq
    · replace c2 := bI_t c2
      refine lv_iload_n hx hb d_M_order_22 rfl (lv_at hl 3 rfl) ?_
      refine rdS (As := [.int q]) (rest := []) ⟨hx, hb, hml, hown, htb⟩ (c_M_isHolder l D (wA ad kd g z v) (tA kd) q) (va_cwS 1 htb (gS tb_good mw_465 mw_466 mw_27 mw_467) rfl rfl rfl (by decide +kernel) ⟨Nat.le_of_ble_eq_true rfl, Nat.le_of_ble_eq_true rfl⟩) hP hK rfl hl.1 rfl (lv_room (Nat.le_of_ble_eq_true rfl)) d_M_order_23 ⟨Nat.zero_le _, Nat.zero_le _⟩ ?_
      refine lv_if_ne (tgt := 39) hx hb d_M_order_26 (by decide) (fun c3 => ?_) (fun c3 => ?_)
      · replace c3 := bI_t c3
        exact absurd hT (by simp [coT, c1, c2, c3])
      · replace c3 := bI_f c3
        exact th_row (own := R_M) (cls := "java/lang/IllegalArgumentException") (text := "no such bill, box or holder") (names := ["java/lang/RuntimeException", "java/lang/Exception"]) hx hb hlt9 hown (by decide +kernel) (by decide +kernel) (htb _ mw_295) (htb _ mw_35) (hX.atoms htb at_IA) (hX.2.2.2 (144, "no such bill, box or holder") (by decide)) (hl.1.trans hml.symm) d_M_order_29 d_M_order_32 d_M_order_33 d_M_order_35 d_M_order_38 hnoh (by decide) (by decide) (by decide) (by decide) hlocks hq
set_option maxHeartbeats 4000000 in
set_option maxRecDepth 100000 in
theorem c_M_like_t1 (l : Launch) (D : va_G) (ad : Nat → Nat) (kd : Nat → ClassId) (g : Nat → Nat → Int32) (z : Nat → Int64) (v : Nat → Int32) (hlt9 : l.stackTraces = false) (x y q : Int32) (hT : ckT x y = 1) : TH l y_M_like (.code y_M_like b_M_like 6 (some .int) :: TB) ({ frames := 6, cells := 1, slots := 6, locals := 82 } : Room) [.ref (ad 0), .int x, .int y, .int q] D classes (wA ad kd g z v) (tA kd) xStr "java/lang/IllegalArgumentException" := by
  refine th_of (by decide +kernel) (Nat.le_of_ble_eq_true rfl) ?_
  intro p e s m args below meth c Q ls N hx hb hml htb hown hP hK hX hnoh hlocks hl hq
  have hl : lv_has ls 6 [(0, .ref (ad 0)), (1, .int x), (2, .int y), (3, .int q)] := hl
  refine lv_iload_n hx hb d_M_like_0 rfl (lv_at hl 1 rfl) ?_
  refine rdS (As := [.int x]) (rest := []) ⟨hx, hb, hml, hown, htb⟩ (c_M_isCall l D (wA ad kd g z v) (tA kd) x) (va_cwS 1 htb (gS tb_good mw_227 mw_228 mw_27 mw_229) rfl rfl rfl (by decide +kernel) ⟨Nat.le_of_ble_eq_true rfl, Nat.le_of_ble_eq_true rfl⟩) hP hK rfl hl.1 rfl (lv_room (Nat.le_of_ble_eq_true rfl)) d_M_like_1 ⟨Nat.zero_le _, Nat.zero_le _⟩ ?_
  refine lv_if_eq (tgt := 14) hx hb d_M_like_4 (by decide) (fun c1 => ?_) (fun c1 => ?_)
  · replace c1 := bI_f c1
    exact th_row (own := R_M) (cls := "java/lang/IllegalArgumentException") (text := "no such call or number") (names := ["java/lang/RuntimeException", "java/lang/Exception"]) hx hb hlt9 hown (by decide +kernel) (by decide +kernel) (htb _ mw_295) (htb _ mw_35) (hX.atoms htb at_IA) (hX.2.2.2 (46, "no such call or number") (by decide)) (hl.1.trans hml.symm) d_M_like_14 d_M_like_17 d_M_like_18 d_M_like_20 d_M_like_23 hnoh (by decide) (by decide) (by decide) (by decide) hlocks hq
  · replace c1 := bI_t c1
    refine lv_iload_n hx hb d_M_like_7 rfl (lv_at hl 2 rfl) ?_
    refine rdS (As := [.int y]) (rest := []) ⟨hx, hb, hml, hown, htb⟩ (c_M_isNumber l D (wA ad kd g z v) (tA kd) y) (va_cwS 1 htb (gS tb_good mw_291 mw_292 mw_27 mw_293) rfl rfl rfl (by decide +kernel) ⟨Nat.le_of_ble_eq_true rfl, Nat.le_of_ble_eq_true rfl⟩) hP hK rfl hl.1 rfl (lv_room (Nat.le_of_ble_eq_true rfl)) d_M_like_8 ⟨Nat.zero_le _, Nat.zero_le _⟩ ?_
    refine lv_if_ne (tgt := 24) hx hb d_M_like_11 (by decide) (fun c2 => ?_) (fun c2 => ?_)
    · replace c2 := bI_t c2
      exact absurd hT (by simp [ckT, c1, c2])
    · replace c2 := bI_f c2
      exact th_row (own := R_M) (cls := "java/lang/IllegalArgumentException") (text := "no such call or number") (names := ["java/lang/RuntimeException", "java/lang/Exception"]) hx hb hlt9 hown (by decide +kernel) (by decide +kernel) (htb _ mw_295) (htb _ mw_35) (hX.atoms htb at_IA) (hX.2.2.2 (46, "no such call or number") (by decide)) (hl.1.trans hml.symm) d_M_like_14 d_M_like_17 d_M_like_18 d_M_like_20 d_M_like_23 hnoh (by decide) (by decide) (by decide) (by decide) hlocks hq
set_option maxHeartbeats 4000000 in
set_option maxRecDepth 100000 in
theorem c_M_seen_t1 (l : Launch) (D : va_G) (ad : Nat → Nat) (kd : Nat → ClassId) (g : Nat → Nat → Int32) (z : Nat → Int64) (v : Nat → Int32) (hlt9 : l.stackTraces = false) (nb : Nat) (hnb : v 2 = nI nb) (hb6 : nb ≤ 60) (nx : Nat) (hnx : v 4 = nI nx) (hx6 : nx ≤ 60) (x y : Int32) (hT : ceT nx x y = 1) : TH l y_M_seen (.code y_M_seen b_M_seen 4 (some .int) :: TB) ({ frames := 6, cells := 1, slots := 6, locals := 82 } : Room) [.ref (ad 0), .int x, .int y] D classes (wA ad kd g z v) (tA kd) xStr "java/lang/IndexOutOfBoundsException" := by
  refine th_of (by decide +kernel) (Nat.le_of_ble_eq_true rfl) ?_
  intro p e s m args below meth c Q ls N hx hb hml htb hown hP hK hX hnoh hlocks hl hq
  have hl : lv_has ls 4 [(0, .ref (ad 0)), (1, .int x), (2, .int y)] := hl
  refine lv_aload_n hx hb d_M_seen_0 rfl (lv_at hl 0 rfl) ?_
  refine va_get (D := D) (ci := 0) (v := .ref (ad 15)) (C := R_M) (T := F_M) (N := 5) hx hb htb iw_M hown hK hP 0 rfl rfl 2 (by decide) (htb _ mw_163) (fun _ h9 => h9) rfl d_M_seen_1 ?_
  refine lv_iload_n hx hb d_M_seen_4 rfl (lv_at hl 1 rfl) ?_
  refine rdV (As := [.int x]) (rest := []) (b := ad 15) ⟨hx, hb, hml, hown, htb⟩ (c_X_has l D ad kd g z v nx hnx hx6 x) (cwV (C := R_X) 1 htb (gV tb_good mw_181 mw_182 mw_183 mw_30 mw_184) rfl rfl rfl (by decide +kernel) ⟨Nat.le_of_ble_eq_true rfl, Nat.le_of_ble_eq_true rfl⟩) hP hK (va_recv hK hP (ci := 3) (q0 := 15) rfl rfl) rfl hl.1 rfl (lv_room (Nat.le_of_ble_eq_true rfl)) d_M_seen_5 ⟨Nat.zero_le _, Nat.zero_le _⟩ ?_
  refine lv_if_eq (tgt := 21) hx hb d_M_seen_8 (by decide) (fun c1 => ?_) (fun c1 => ?_)
  · replace c1 := bI_f c1
    exact th_row (own := R_M) (cls := "java/lang/IndexOutOfBoundsException") (text := "no such box or what") (names := ["java/lang/RuntimeException", "java/lang/Exception"]) hx hb hlt9 hown (by decide +kernel) (by decide +kernel) (htb _ mw_513) (htb _ mw_39) (hX.atoms htb at_IO) (hX.2.2.2 (214, "no such box or what") (by decide)) (hl.1.trans hml.symm) d_M_seen_21 d_M_seen_24 d_M_seen_25 d_M_seen_27 d_M_seen_30 hnoh (by decide) (by decide) (by decide) (by decide) hlocks hq
  · replace c1 := bI_t c1
    refine lv_iload_n hx hb d_M_seen_11 rfl (lv_at hl 2 rfl) ?_
    refine lv_if_lt (tgt := 21) hx hb d_M_seen_12 (by decide) (fun c2 => ?_) (fun c2 => ?_)
    · exact th_row (own := R_M) (cls := "java/lang/IndexOutOfBoundsException") (text := "no such box or what") (names := ["java/lang/RuntimeException", "java/lang/Exception"]) hx hb hlt9 hown (by decide +kernel) (by decide +kernel) (htb _ mw_513) (htb _ mw_39) (hX.atoms htb at_IO) (hX.2.2.2 (214, "no such box or what") (by decide)) (hl.1.trans hml.symm) d_M_seen_21 d_M_seen_24 d_M_seen_25 d_M_seen_27 d_M_seen_30 hnoh (by decide) (by decide) (by decide) (by decide) hlocks hq
    · refine lv_iload_n hx hb d_M_seen_15 rfl (lv_at hl 2 rfl) ?_
      refine lv_bipush (v := 13) hx hb d_M_seen_16 (by decide) ?_
      refine lv_icmp_le (tgt := 31) hx hb d_M_seen_18 (by decide) (fun c3 => ?_) (fun c3 => ?_)
      · exact absurd hT (by simp [ceT, c1, c2, c3])
      · exact th_row (own := R_M) (cls := "java/lang/IndexOutOfBoundsException") (text := "no such box or what") (names := ["java/lang/RuntimeException", "java/lang/Exception"]) hx hb hlt9 hown (by decide +kernel) (by decide +kernel) (htb _ mw_513) (htb _ mw_39) (hX.atoms htb at_IO) (hX.2.2.2 (214, "no such box or what") (by decide)) (hl.1.trans hml.symm) d_M_seen_21 d_M_seen_24 d_M_seen_25 d_M_seen_27 d_M_seen_30 hnoh (by decide) (by decide) (by decide) (by decide) hlocks hq
set_option maxHeartbeats 4000000 in
set_option maxRecDepth 100000 in
theorem c_M_look_t1 (l : Launch) (D : va_G) (ad : Nat → Nat) (kd : Nat → ClassId) (g : Nat → Nat → Int32) (z : Nat → Int64) (v : Nat → Int32) (hlt9 : l.stackTraces = false) (nb : Nat) (hnb : v 2 = nI nb) (hb6 : nb ≤ 60) (x y : Int32) (hT : inN nb x = false) : TH l y_M_look (.code y_M_look b_M_look 3 (some .int) :: TB) ({ frames := 6, cells := 1, slots := 6, locals := 89 } : Room) [.ref (ad 0), .int x, .int y] D classes (wA ad kd g z v) (tA kd) xStr "java/lang/IndexOutOfBoundsException" := by
  refine th_of (by decide +kernel) (Nat.le_of_ble_eq_true rfl) ?_
  intro p e s m args below meth c Q ls N hx hb hml htb hown hP hK hX hnoh hlocks hl hq
  have hl : lv_has ls 3 [(0, .ref (ad 0)), (1, .int x), (2, .int y)] := hl
  refine lv_aload_n hx hb d_M_look_0 rfl (lv_at hl 0 rfl) ?_
  refine va_get (D := D) (ci := 0) (v := .ref (ad 1)) (C := R_M) (T := F_M) (N := 5) hx hb htb iw_M hown hK hP 0 rfl rfl 0 (by decide) (htb _ mw_161) (fun _ h9 => h9) rfl d_M_look_1 ?_
  refine lv_iload_n hx hb d_M_look_4 rfl (lv_at hl 1 rfl) ?_
  refine rdV (As := [.int x]) (rest := []) (b := ad 1) ⟨hx, hb, hml, hown, htb⟩ (c_B_has l D ad kd g z v nb hnb hb6 x) (cwV (C := R_B) 1 htb (gV tb_good mw_185 mw_186 mw_187 mw_28 mw_188) rfl rfl rfl (by decide +kernel) ⟨Nat.le_of_ble_eq_true rfl, Nat.le_of_ble_eq_true rfl⟩) hP hK (va_recv hK hP (ci := 1) (q0 := 1) rfl rfl) rfl hl.1 rfl (lv_room (Nat.le_of_ble_eq_true rfl)) d_M_look_5 ⟨Nat.zero_le _, Nat.zero_le _⟩ ?_
  refine lv_if_ne (tgt := 21) hx hb d_M_look_8 (by decide) (fun c1 => ?_) (fun c1 => ?_)
  · replace c1 := bI_t c1
    exact absurd hT (by simp [c1])
  · replace c1 := bI_f c1
    exact th_row (own := R_M) (cls := "java/lang/IndexOutOfBoundsException") (text := "no such bill") (names := ["java/lang/RuntimeException", "java/lang/Exception"]) hx hb hlt9 hown (by decide +kernel) (by decide +kernel) (htb _ mw_513) (htb _ mw_39) (hX.atoms htb at_IO) (hX.2.2.2 (182, "no such bill") (by decide)) (hl.1.trans hml.symm) d_M_look_11 d_M_look_14 d_M_look_15 d_M_look_17 d_M_look_20 hnoh (by decide) (by decide) (by decide) (by decide) hlocks hq
set_option maxHeartbeats 4000000 in
set_option maxRecDepth 100000 in
theorem c_M_look_t2 (l : Launch) (D : va_G) (ad : Nat → Nat) (kd : Nat → ClassId) (g : Nat → Nat → Int32) (z : Nat → Int64) (v : Nat → Int32) (hlt9 : l.stackTraces = false) (nb : Nat) (hnb : v 2 = nI nb) (hb6 : nb ≤ 60) (x y : Int32) (ho : y.toInt < 0 ∨ 15 < y.toInt) (hT : inN nb x = true) : TH l y_M_look (.code y_M_look b_M_look 3 (some .int) :: TB) ({ frames := 6, cells := 1, slots := 6, locals := 89 } : Room) [.ref (ad 0), .int x, .int y] D classes (wA ad kd g z v) (tA kd) xStr "java/lang/IndexOutOfBoundsException" := by
  refine th_of (by decide +kernel) (Nat.le_of_ble_eq_true rfl) ?_
  intro p e s m args below meth c Q ls N hx hb hml htb hown hP hK hX hnoh hlocks hl hq
  have hl : lv_has ls 3 [(0, .ref (ad 0)), (1, .int x), (2, .int y)] := hl
  refine lv_aload_n hx hb d_M_look_0 rfl (lv_at hl 0 rfl) ?_
  refine va_get (D := D) (ci := 0) (v := .ref (ad 1)) (C := R_M) (T := F_M) (N := 5) hx hb htb iw_M hown hK hP 0 rfl rfl 0 (by decide) (htb _ mw_161) (fun _ h9 => h9) rfl d_M_look_1 ?_
  refine lv_iload_n hx hb d_M_look_4 rfl (lv_at hl 1 rfl) ?_
  refine rdV (As := [.int x]) (rest := []) (b := ad 1) ⟨hx, hb, hml, hown, htb⟩ (c_B_has l D ad kd g z v nb hnb hb6 x) (cwV (C := R_B) 1 htb (gV tb_good mw_185 mw_186 mw_187 mw_28 mw_188) rfl rfl rfl (by decide +kernel) ⟨Nat.le_of_ble_eq_true rfl, Nat.le_of_ble_eq_true rfl⟩) hP hK (va_recv hK hP (ci := 1) (q0 := 1) rfl rfl) rfl hl.1 rfl (lv_room (Nat.le_of_ble_eq_true rfl)) d_M_look_5 ⟨Nat.zero_le _, Nat.zero_le _⟩ ?_
  refine lv_if_ne (tgt := 21) hx hb d_M_look_8 (by decide) (fun c1 => ?_) (fun c1 => ?_)
  · replace c1 := bI_t c1
    refine lv_iload_n hx hb d_M_look_21 rfl (lv_at hl 2 rfl) ?_
    refine lv_tableOut (tgt := 279) hx hb d_M_look_22 ho (by decide) ?_
    exact th_row (own := R_M) (cls := "java/lang/IndexOutOfBoundsException") (text := "no such what") (names := ["java/lang/RuntimeException", "java/lang/Exception"]) hx hb hlt9 hown (by decide +kernel) (by decide +kernel) (htb _ mw_513) (htb _ mw_39) (hX.atoms htb at_IO) (hX.2.2.2 (212, "no such what") (by decide)) (hl.1.trans hml.symm) d_M_look_279 d_M_look_282 d_M_look_283 d_M_look_285 d_M_look_288 hnoh (by decide) (by decide) (by decide) (by decide) hlocks hq
  · replace c1 := bI_f c1
    exact absurd hT (by simp [c1])
set_option maxHeartbeats 4000000 in
set_option maxRecDepth 100000 in
theorem c_M_seen_t2 (l : Launch) (D : va_G) (ad : Nat → Nat) (kd : Nat → ClassId) (g : Nat → Nat → Int32) (z : Nat → Int64) (v : Nat → Int32) (hlt9 : l.stackTraces = false) (nb : Nat) (hnb : v 2 = nI nb) (hb6 : nb ≤ 60) (nx : Nat) (hnx : v 4 = nI nx) (hx6 : nx ≤ 60) (j : Nat) (hj : j < nx) (k : Nat) (hk9 : 10 ≤ k) (hk : k < 14) (hT : ∀ n, k = n + 10 → pickN (fun b => onX z j (nI b)) (nI n) 60 = -1) : TH l y_M_seen (.code y_M_seen b_M_seen 4 (some .int) :: TB) ({ frames := 6, cells := 1, slots := 6, locals := 82 } : Room) [.ref (ad 0), .int (nI j), .int (nI k)] D classes (wA ad kd g z v) (tA kd) xStr "java/util/NoSuchElementException" := by
  refine th_of (by decide +kernel) (Nat.le_of_ble_eq_true rfl) ?_
  intro p e s m args below meth c Q ls N hx hb hml htb hown hP hK hX hnoh hlocks hl hq
  have hl : lv_has ls 4 [(0, .ref (ad 0)), (1, .int (nI j)), (2, .int (nI k))] := hl
  have hin : inN nx (nI j) = true := inN_nI hj (by omega)
  have hk0 : ¬ nI k < 0 := nI_pos (by omega)
  have hk13 : nI k ≤ 13 := nI_le (b := 13) (by omega) (by decide)
  refine lv_aload_n hx hb d_M_seen_0 rfl (lv_at hl 0 rfl) ?_
  refine va_get (D := D) (ci := 0) (v := .ref (ad 15)) (C := R_M) (T := F_M) (N := 5) hx hb htb iw_M hown hK hP 0 rfl rfl 2 (by decide) (htb _ mw_163) (fun _ h9 => h9) rfl d_M_seen_1 ?_
  refine lv_iload_n hx hb d_M_seen_4 rfl (lv_at hl 1 rfl) ?_
  refine rdV (As := [.int (nI j)]) (rest := []) (b := ad 15) ⟨hx, hb, hml, hown, htb⟩ (c_X_has l D ad kd g z v nx hnx hx6 (nI j)) (cwV (C := R_X) 1 htb (gV tb_good mw_181 mw_182 mw_183 mw_30 mw_184) rfl rfl rfl (by decide +kernel) ⟨Nat.le_of_ble_eq_true rfl, Nat.le_of_ble_eq_true rfl⟩) hP hK (va_recv hK hP (ci := 3) (q0 := 15) rfl rfl) rfl hl.1 rfl (lv_room (Nat.le_of_ble_eq_true rfl)) d_M_seen_5 ⟨Nat.zero_le _, Nat.zero_le _⟩ ?_
  refine lv_if_eq (tgt := 21) hx hb d_M_seen_8 (by decide) (fun c1 => ?_) (fun c1 => ?_)
  · replace c1 := bI_f c1
    first | (simp [hin, hk0] at c1; done) | (simp at c1; omega) | (exact absurd c1 (by omega))
  · replace c1 := bI_t c1
    refine lv_iload_n hx hb d_M_seen_11 rfl (lv_at hl 2 rfl) ?_
    refine lv_if_lt (tgt := 21) hx hb d_M_seen_12 (by decide) (fun c2 => ?_) (fun c2 => ?_)
    · first | (simp [hin, hk0] at c2; done) | (simp [hin, hk0] at c1; done) | (simp at c2; omega) | (exact absurd c2 (by omega)) | (simp at c1; omega) | (exact absurd c1 (by omega))
    · refine lv_iload_n hx hb d_M_seen_15 rfl (lv_at hl 2 rfl) ?_
      refine lv_bipush (v := 13) hx hb d_M_seen_16 (by decide) ?_
      refine q_icmp_le (a := k) (b := 13) (tgt := 31) hx hb (by omega) (by omega) d_M_seen_18 (by decide) (fun c3 => ?_) (fun c3 => ?_)
      · refine lv_iload_n hx hb d_M_seen_31 rfl (lv_at hl 2 rfl) ?_
        rcases (show k = 0 ∨ k = 1 ∨ k = 2 ∨ k = 3 ∨ k = 4 ∨ k = 5 ∨ k = 6 ∨ k = 7 ∨ k = 8 ∨ k = 9 ∨ k = 10 ∨ k = 11 ∨ k = 12 ∨ k = 13 by omega) with rfl | rfl | rfl | rfl | rfl | rfl | rfl | rfl | rfl | rfl | rfl | rfl | rfl | rfl
        · refine lv_tableIn (tgt := 88) hx hb d_M_seen_32 (by decide) (by decide) rfl (by decide) ?_
          omega
        · refine lv_tableIn (tgt := 98) hx hb d_M_seen_32 (by decide) (by decide) rfl (by decide) ?_
          omega
        · refine lv_tableIn (tgt := 108) hx hb d_M_seen_32 (by decide) (by decide) rfl (by decide) ?_
          omega
        · refine lv_tableIn (tgt := 118) hx hb d_M_seen_32 (by decide) (by decide) rfl (by decide) ?_
          omega
        · refine lv_tableIn (tgt := 128) hx hb d_M_seen_32 (by decide) (by decide) rfl (by decide) ?_
          omega
        · refine lv_tableIn (tgt := 137) hx hb d_M_seen_32 (by decide) (by decide) rfl (by decide) ?_
          omega
        · refine lv_tableIn (tgt := 154) hx hb d_M_seen_32 (by decide) (by decide) rfl (by decide) ?_
          omega
        · refine lv_tableIn (tgt := 164) hx hb d_M_seen_32 (by decide) (by decide) rfl (by decide) ?_
          omega
        · refine lv_tableIn (tgt := 174) hx hb d_M_seen_32 (by decide) (by decide) rfl (by decide) ?_
          omega
        · refine lv_tableIn (tgt := 183) hx hb d_M_seen_32 (by decide) (by decide) rfl (by decide) ?_
          omega
        · refine lv_tableOut (tgt := 192) hx hb d_M_seen_32 (by decide) (by decide) ?_
          refine lv_aload_n hx hb d_M_seen_192 rfl (lv_at hl 0 rfl) ?_
          refine va_get (D := D) (ci := 0) (v := .ref (ad 15)) (C := R_M) (T := F_M) (N := 5) hx hb htb iw_M hown hK hP 0 rfl rfl 2 (by decide) (htb _ mw_163) (fun _ h9 => h9) rfl d_M_seen_193 ?_
          refine lv_iload_n hx hb d_M_seen_196 rfl (lv_at hl 1 rfl) ?_
          refine lv_iload_n hx hb d_M_seen_197 rfl (lv_at hl 2 rfl) ?_
          refine lv_bipush (v := 10) hx hb d_M_seen_198 (by decide) ?_
          refine lv_isub hx hb d_M_seen_200 ?_
          refine W.eq (congrArg (fun z => F0 m 201 ls (.int z :: [.int (nI j), .ref (ad 15)])) (show ((nI 10) - 10) = (nI 0) from (by decide))) ?_
          refine rdV (As := [.int (nI j), .int (nI 0)]) (rest := []) (b := ad 15) ⟨hx, hb, hml, hown, htb⟩ (c_X_billAt l D ad kd g z v j (by omega) (nI 0)) (cwV (C := R_X) 2 htb (gV tb_good mw_560 mw_561 mw_562 mw_30 mw_563) rfl rfl rfl (by decide +kernel) ⟨Nat.le_of_ble_eq_true rfl, Nat.le_of_ble_eq_true rfl⟩) hP hK (va_recv hK hP (ci := 3) (q0 := 15) rfl rfl) rfl hl.1 rfl (lv_room (Nat.le_of_ble_eq_true rfl)) d_M_seen_201 ⟨Nat.zero_le _, Nat.zero_le _⟩ ?_
          refine lv_istore_n (lv' := [(3, .int (pickN (fun b => onX z j (nI b)) (nI 0) 60)), (0, .ref (ad 0)), (1, .int (nI j)), (2, .int (nI 10))]) hx hb d_M_seen_204 rfl hl (by decide) rfl (fun ls hl => ?_)
          refine lv_iload_n hx hb d_M_seen_205 rfl (lv_at hl 0 rfl) ?_
          refine lv_iconst (v := (-1)) hx hb d_M_seen_206 (by decide) ?_
          refine lv_icmp_ne (tgt := 220) hx hb d_M_seen_207 (by decide) (fun c4 => ?_) (fun c4 => ?_)
          · exact absurd (hT 0 rfl) c4
          · exact th_rowX (own := R_M) (cls := "java/util/NoSuchElementException") (text := "the box is on less bills") (Y0 := "java/lang/RuntimeException") (r := ["java/lang/Exception"]) (ix := 13) (rx := nsx) hx hb hlt9 nsx_0 nsx_1 nsx_2 nsx_5 hown (by decide +kernel) (by decide +kernel) (by decide +kernel) (htb _ mw_564) (htb _ mw_40) (hX.atoms htb at_NS) (hX.2.2.2 (231, "the box is on less bills") (by decide)) (hl.1.trans hml.symm) d_M_seen_210 d_M_seen_213 d_M_seen_214 d_M_seen_216 d_M_seen_219 hnoh (by decide) (by decide) (by decide) (by decide) hlocks hq
        · refine lv_tableOut (tgt := 192) hx hb d_M_seen_32 (by decide) (by decide) ?_
          refine lv_aload_n hx hb d_M_seen_192 rfl (lv_at hl 0 rfl) ?_
          refine va_get (D := D) (ci := 0) (v := .ref (ad 15)) (C := R_M) (T := F_M) (N := 5) hx hb htb iw_M hown hK hP 0 rfl rfl 2 (by decide) (htb _ mw_163) (fun _ h9 => h9) rfl d_M_seen_193 ?_
          refine lv_iload_n hx hb d_M_seen_196 rfl (lv_at hl 1 rfl) ?_
          refine lv_iload_n hx hb d_M_seen_197 rfl (lv_at hl 2 rfl) ?_
          refine lv_bipush (v := 10) hx hb d_M_seen_198 (by decide) ?_
          refine lv_isub hx hb d_M_seen_200 ?_
          refine W.eq (congrArg (fun z => F0 m 201 ls (.int z :: [.int (nI j), .ref (ad 15)])) (show ((nI 11) - 10) = (nI 1) from (by decide))) ?_
          refine rdV (As := [.int (nI j), .int (nI 1)]) (rest := []) (b := ad 15) ⟨hx, hb, hml, hown, htb⟩ (c_X_billAt l D ad kd g z v j (by omega) (nI 1)) (cwV (C := R_X) 2 htb (gV tb_good mw_560 mw_561 mw_562 mw_30 mw_563) rfl rfl rfl (by decide +kernel) ⟨Nat.le_of_ble_eq_true rfl, Nat.le_of_ble_eq_true rfl⟩) hP hK (va_recv hK hP (ci := 3) (q0 := 15) rfl rfl) rfl hl.1 rfl (lv_room (Nat.le_of_ble_eq_true rfl)) d_M_seen_201 ⟨Nat.zero_le _, Nat.zero_le _⟩ ?_
          refine lv_istore_n (lv' := [(3, .int (pickN (fun b => onX z j (nI b)) (nI 1) 60)), (0, .ref (ad 0)), (1, .int (nI j)), (2, .int (nI 11))]) hx hb d_M_seen_204 rfl hl (by decide) rfl (fun ls hl => ?_)
          refine lv_iload_n hx hb d_M_seen_205 rfl (lv_at hl 0 rfl) ?_
          refine lv_iconst (v := (-1)) hx hb d_M_seen_206 (by decide) ?_
          refine lv_icmp_ne (tgt := 220) hx hb d_M_seen_207 (by decide) (fun c5 => ?_) (fun c5 => ?_)
          · exact absurd (hT 1 rfl) c5
          · exact th_rowX (own := R_M) (cls := "java/util/NoSuchElementException") (text := "the box is on less bills") (Y0 := "java/lang/RuntimeException") (r := ["java/lang/Exception"]) (ix := 13) (rx := nsx) hx hb hlt9 nsx_0 nsx_1 nsx_2 nsx_5 hown (by decide +kernel) (by decide +kernel) (by decide +kernel) (htb _ mw_564) (htb _ mw_40) (hX.atoms htb at_NS) (hX.2.2.2 (231, "the box is on less bills") (by decide)) (hl.1.trans hml.symm) d_M_seen_210 d_M_seen_213 d_M_seen_214 d_M_seen_216 d_M_seen_219 hnoh (by decide) (by decide) (by decide) (by decide) hlocks hq
        · refine lv_tableOut (tgt := 192) hx hb d_M_seen_32 (by decide) (by decide) ?_
          refine lv_aload_n hx hb d_M_seen_192 rfl (lv_at hl 0 rfl) ?_
          refine va_get (D := D) (ci := 0) (v := .ref (ad 15)) (C := R_M) (T := F_M) (N := 5) hx hb htb iw_M hown hK hP 0 rfl rfl 2 (by decide) (htb _ mw_163) (fun _ h9 => h9) rfl d_M_seen_193 ?_
          refine lv_iload_n hx hb d_M_seen_196 rfl (lv_at hl 1 rfl) ?_
          refine lv_iload_n hx hb d_M_seen_197 rfl (lv_at hl 2 rfl) ?_
          refine lv_bipush (v := 10) hx hb d_M_seen_198 (by decide) ?_
          refine lv_isub hx hb d_M_seen_200 ?_
          refine W.eq (congrArg (fun z => F0 m 201 ls (.int z :: [.int (nI j), .ref (ad 15)])) (show ((nI 12) - 10) = (nI 2) from (by decide))) ?_
          refine rdV (As := [.int (nI j), .int (nI 2)]) (rest := []) (b := ad 15) ⟨hx, hb, hml, hown, htb⟩ (c_X_billAt l D ad kd g z v j (by omega) (nI 2)) (cwV (C := R_X) 2 htb (gV tb_good mw_560 mw_561 mw_562 mw_30 mw_563) rfl rfl rfl (by decide +kernel) ⟨Nat.le_of_ble_eq_true rfl, Nat.le_of_ble_eq_true rfl⟩) hP hK (va_recv hK hP (ci := 3) (q0 := 15) rfl rfl) rfl hl.1 rfl (lv_room (Nat.le_of_ble_eq_true rfl)) d_M_seen_201 ⟨Nat.zero_le _, Nat.zero_le _⟩ ?_
          refine lv_istore_n (lv' := [(3, .int (pickN (fun b => onX z j (nI b)) (nI 2) 60)), (0, .ref (ad 0)), (1, .int (nI j)), (2, .int (nI 12))]) hx hb d_M_seen_204 rfl hl (by decide) rfl (fun ls hl => ?_)
          refine lv_iload_n hx hb d_M_seen_205 rfl (lv_at hl 0 rfl) ?_
          refine lv_iconst (v := (-1)) hx hb d_M_seen_206 (by decide) ?_
          refine lv_icmp_ne (tgt := 220) hx hb d_M_seen_207 (by decide) (fun c6 => ?_) (fun c6 => ?_)
          · exact absurd (hT 2 rfl) c6
          · exact th_rowX (own := R_M) (cls := "java/util/NoSuchElementException") (text := "the box is on less bills") (Y0 := "java/lang/RuntimeException") (r := ["java/lang/Exception"]) (ix := 13) (rx := nsx) hx hb hlt9 nsx_0 nsx_1 nsx_2 nsx_5 hown (by decide +kernel) (by decide +kernel) (by decide +kernel) (htb _ mw_564) (htb _ mw_40) (hX.atoms htb at_NS) (hX.2.2.2 (231, "the box is on less bills") (by decide)) (hl.1.trans hml.symm) d_M_seen_210 d_M_seen_213 d_M_seen_214 d_M_seen_216 d_M_seen_219 hnoh (by decide) (by decide) (by decide) (by decide) hlocks hq
        · refine lv_tableOut (tgt := 192) hx hb d_M_seen_32 (by decide) (by decide) ?_
          refine lv_aload_n hx hb d_M_seen_192 rfl (lv_at hl 0 rfl) ?_
          refine va_get (D := D) (ci := 0) (v := .ref (ad 15)) (C := R_M) (T := F_M) (N := 5) hx hb htb iw_M hown hK hP 0 rfl rfl 2 (by decide) (htb _ mw_163) (fun _ h9 => h9) rfl d_M_seen_193 ?_
          refine lv_iload_n hx hb d_M_seen_196 rfl (lv_at hl 1 rfl) ?_
          refine lv_iload_n hx hb d_M_seen_197 rfl (lv_at hl 2 rfl) ?_
          refine lv_bipush (v := 10) hx hb d_M_seen_198 (by decide) ?_
          refine lv_isub hx hb d_M_seen_200 ?_
          refine W.eq (congrArg (fun z => F0 m 201 ls (.int z :: [.int (nI j), .ref (ad 15)])) (show ((nI 13) - 10) = (nI 3) from (by decide))) ?_
          refine rdV (As := [.int (nI j), .int (nI 3)]) (rest := []) (b := ad 15) ⟨hx, hb, hml, hown, htb⟩ (c_X_billAt l D ad kd g z v j (by omega) (nI 3)) (cwV (C := R_X) 2 htb (gV tb_good mw_560 mw_561 mw_562 mw_30 mw_563) rfl rfl rfl (by decide +kernel) ⟨Nat.le_of_ble_eq_true rfl, Nat.le_of_ble_eq_true rfl⟩) hP hK (va_recv hK hP (ci := 3) (q0 := 15) rfl rfl) rfl hl.1 rfl (lv_room (Nat.le_of_ble_eq_true rfl)) d_M_seen_201 ⟨Nat.zero_le _, Nat.zero_le _⟩ ?_
          refine lv_istore_n (lv' := [(3, .int (pickN (fun b => onX z j (nI b)) (nI 3) 60)), (0, .ref (ad 0)), (1, .int (nI j)), (2, .int (nI 13))]) hx hb d_M_seen_204 rfl hl (by decide) rfl (fun ls hl => ?_)
          refine lv_iload_n hx hb d_M_seen_205 rfl (lv_at hl 0 rfl) ?_
          refine lv_iconst (v := (-1)) hx hb d_M_seen_206 (by decide) ?_
          refine lv_icmp_ne (tgt := 220) hx hb d_M_seen_207 (by decide) (fun c7 => ?_) (fun c7 => ?_)
          · exact absurd (hT 3 rfl) c7
          · exact th_rowX (own := R_M) (cls := "java/util/NoSuchElementException") (text := "the box is on less bills") (Y0 := "java/lang/RuntimeException") (r := ["java/lang/Exception"]) (ix := 13) (rx := nsx) hx hb hlt9 nsx_0 nsx_1 nsx_2 nsx_5 hown (by decide +kernel) (by decide +kernel) (by decide +kernel) (htb _ mw_564) (htb _ mw_40) (hX.atoms htb at_NS) (hX.2.2.2 (231, "the box is on less bills") (by decide)) (hl.1.trans hml.symm) d_M_seen_210 d_M_seen_213 d_M_seen_214 d_M_seen_216 d_M_seen_219 hnoh (by decide) (by decide) (by decide) (by decide) hlocks hq
      · first | (simp [hin, hk0] at c3; done) | (simp [hin, hk0] at c2; done) | (simp [hin, hk0] at c1; done) | (simp at c3; omega) | (exact absurd c3 (by omega)) | (simp at c2; omega) | (exact absurd c2 (by omega)) | (simp at c1; omega) | (exact absurd c1 (by omega))
