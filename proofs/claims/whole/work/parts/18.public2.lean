set_option maxHeartbeats 4000000 in
set_option maxRecDepth 100000 in
theorem c_M_split (l : Launch) (D : va_G) (ad : Nat → Nat) (kd : Nat → ClassId) (g : Nat → Nat → Int32) (z : Nat → Int64) (v : Nat → Int32) (nb : Nat) (hnb : v 2 = nI nb) (hb6 : nb ≤ 60) (nl : Nat) (hnl : v 3 = nI nl) (hl2 : nl ≤ 200) (hlt : nb < 60) (hlt2 : nl < 200) (k : Nat) (hk : k < nb) (w : Int32) (hw1 : 1 ≤ w) : WRi l y_M_split (.code y_M_split b_M_split 5 (some .int) :: TB) ({ frames := 2, cells := 0, slots := 0, locals := 48 } : Room) [.ref (ad 0), .int (nI k), .int w] D classes (wA ad kd g z v) (wA ad kd (if spR g nb k w = true then splG g nb nl k w else g) z (if spR g nb k w = true then upd (upd v 2 (nI nb + 1)) 3 (nI nl + 1) else v)) (tA kd) (if spR g nb k w = true then nI nb else -1) := by
  refine wr_of (by decide +kernel) (rfl) (Nat.le_of_ble_eq_true rfl) ?_
  intro p e s m args below meth c Q ls A hx hb hml htb hown hP hK hD hS hA hl hret
  have hl : lv_has ls 5 [(0, .ref (ad 0)), (1, .int (nI k)), (2, .int w)] := hl
  have hin : inN nb (nI k) = true := inN_nI hk (by omega)
  refine lv_aload_n hx hb d_M_split_0 rfl (lv_at hl 0 rfl) ?_
  refine va_get (D := D) (ci := 0) (v := .ref (ad 1)) (C := R_M) (T := F_M) (N := 5) hx hb htb iw_M hown hK hP 0 rfl rfl 0 (by decide) (htb _ mw_161) (fun _ h9 => h9) rfl d_M_split_1 ?_
  refine lv_iload_n hx hb d_M_split_4 rfl (lv_at hl 1 rfl) ?_
  refine rdV (As := [.int (nI k)]) (rest := []) (b := ad 1) ⟨hx, hb, hml, hown, htb⟩ (c_B_has l D ad kd g z v nb hnb hb6 (nI k)) (cwV (C := R_B) 1 htb (gV tb_good mw_185 mw_186 mw_187 mw_28 mw_188) rfl rfl rfl (by decide +kernel) ⟨Nat.le_of_ble_eq_true rfl, Nat.le_of_ble_eq_true rfl⟩) hP hK (va_recv hK hP (ci := 1) (q0 := 1) rfl rfl) rfl hl.1 rfl (lv_room (Nat.le_of_ble_eq_true rfl)) d_M_split_5 ⟨Nat.zero_le _, Nat.zero_le _⟩ ?_
  refine lv_if_eq (tgt := 16) hx hb d_M_split_8 (by decide) (fun c1 => ?_) (fun c1 => ?_)
  · replace c1 := bI_f c1
    first | (simp [hin, hw1] at c1; done) | (simp at c1; omega) | (exact absurd c1 (by omega))
  · replace c1 := bI_t c1
    refine lv_iload_n hx hb d_M_split_11 rfl (lv_at hl 2 rfl) ?_
    refine lv_iconst (v := 1) hx hb d_M_split_12 (by decide) ?_
    refine lv_icmp_ge (tgt := 26) hx hb d_M_split_13 (by decide) (fun c2 => ?_) (fun c2 => ?_)
    · refine lv_aload_n hx hb d_M_split_26 rfl (lv_at hl 0 rfl) ?_
      refine va_get (D := D) (ci := 0) (v := .ref (ad 1)) (C := R_M) (T := F_M) (N := 5) hx hb htb iw_M hown hK hP 0 rfl rfl 0 (by decide) (htb _ mw_161) (fun _ h9 => h9) rfl d_M_split_27 ?_
      refine rdV (As := []) (rest := []) (b := ad 1) ⟨hx, hb, hml, hown, htb⟩ (c_B_isFull l D ad kd g z v nb hnb hb6) (cwV (C := R_B) 0 htb (gV tb_good mw_364 mw_365 mw_366 mw_28 mw_367) rfl rfl rfl (by decide +kernel) ⟨Nat.le_of_ble_eq_true rfl, Nat.le_of_ble_eq_true rfl⟩) hP hK (va_recv hK hP (ci := 1) (q0 := 1) rfl rfl) rfl hl.1 rfl (lv_room (Nat.le_of_ble_eq_true rfl)) d_M_split_30 ⟨Nat.zero_le _, Nat.zero_le _⟩ ?_
      refine lv_if_ne (tgt := 46) hx hb d_M_split_33 (by decide) (fun c3 => ?_) (fun c3 => ?_)
      · replace c3 := bI_t c3
        first | (simp [hin, hw1] at c3; done) | (simp [hin, hw1] at c2; done) | (simp [hin, hw1] at c1; done) | (simp at c3; omega) | (exact absurd c3 (by omega)) | (simp at c2; omega) | (exact absurd c2 (by omega)) | (simp at c1; omega) | (exact absurd c1 (by omega))
      · replace c3 := bI_f c3
        refine lv_aload_n hx hb d_M_split_36 rfl (lv_at hl 0 rfl) ?_
        refine va_get (D := D) (ci := 0) (v := .ref (ad 9)) (C := R_M) (T := F_M) (N := 5) hx hb htb iw_M hown hK hP 0 rfl rfl 1 (by decide) (htb _ mw_162) (fun _ h9 => h9) rfl d_M_split_37 ?_
        refine rdV (As := []) (rest := []) (b := ad 9) ⟨hx, hb, hml, hown, htb⟩ (c_N_isFull l D ad kd g z v nl hnl hl2) (cwV (C := R_N) 0 htb (gV tb_good mw_409 mw_410 mw_411 mw_29 mw_412) rfl rfl rfl (by decide +kernel) ⟨Nat.le_of_ble_eq_true rfl, Nat.le_of_ble_eq_true rfl⟩) hP hK (va_recv hK hP (ci := 2) (q0 := 9) rfl rfl) rfl hl.1 rfl (lv_room (Nat.le_of_ble_eq_true rfl)) d_M_split_40 ⟨Nat.zero_le _, Nat.zero_le _⟩ ?_
        refine lv_if_eq (tgt := 56) hx hb d_M_split_43 (by decide) (fun c4 => ?_) (fun c4 => ?_)
        · replace c4 := bI_f c4
          refine lv_iload_n hx hb d_M_split_56 rfl (lv_at hl 2 rfl) ?_
          refine lv_aload_n hx hb d_M_split_57 rfl (lv_at hl 0 rfl) ?_
          refine va_get (D := D) (ci := 0) (v := .ref (ad 9)) (C := R_M) (T := F_M) (N := 5) hx hb htb iw_M hown hK hP 0 rfl rfl 1 (by decide) (htb _ mw_162) (fun _ h9 => h9) rfl d_M_split_58 ?_
          refine va_get (D := D) (ci := 2) (v := .ref (ad 13)) (C := R_N) (T := F_N) (N := 6) hx hb htb iw_N hown hK hP 9 rfl rfl 4 (by decide) (htb _ mw_102) (fun _ h9 => h9) rfl d_M_split_61 ?_
          refine lv_iload_n hx hb d_M_split_64 rfl (lv_at hl 1 rfl) ?_
          refine q_iald hx hb hK hP 13 10 rfl rfl k (by omega) (by decide) d_M_split_65 ?_
          refine lv_icmp_ge (tgt := 91) hx hb d_M_split_66 (by decide) (fun c5 => ?_) (fun c5 => ?_)
          · refine lv_iconst (v := (-1)) hx hb d_M_split_91 (by decide) ?_
            exact hret _ _ _ _ _ (by simp [spR, c1, c2, c3, c4, c5]) (by rw [show spR g nb k w = false by simp [spR, c1, c2, c3, c4, c5]]; exact hP) hS d_M_split_92
          · refine lv_aload_n hx hb d_M_split_69 rfl (lv_at hl 0 rfl) ?_
            refine va_get (D := D) (ci := 0) (v := .ref (ad 1)) (C := R_M) (T := F_M) (N := 5) hx hb htb iw_M hown hK hP 0 rfl rfl 0 (by decide) (htb _ mw_161) (fun _ h9 => h9) rfl d_M_split_70 ?_
            refine lv_iload_n hx hb d_M_split_73 rfl (lv_at hl 1 rfl) ?_
            refine rdV (As := [.int (nI k)]) (rest := []) (b := ad 1) ⟨hx, hb, hml, hown, htb⟩ (c_B_under l D ad kd g z v nb hnb hb6 (nI k)) (cwV (C := R_B) 1 htb (gV tb_good mw_487 mw_488 mw_489 mw_28 mw_490) rfl rfl rfl (by decide +kernel) ⟨Nat.le_of_ble_eq_true rfl, Nat.le_of_ble_eq_true rfl⟩) hP hK (va_recv hK hP (ci := 1) (q0 := 1) rfl rfl) rfl hl.1 rfl (lv_room (Nat.le_of_ble_eq_true rfl)) d_M_split_74 ⟨Nat.zero_le _, Nat.zero_le _⟩ ?_
            refine lv_if_gt (tgt := 91) hx hb d_M_split_77 (by decide) (fun c6 => ?_) (fun c6 => ?_)
            · refine lv_iconst (v := (-1)) hx hb d_M_split_91 (by decide) ?_
              exact hret _ _ _ _ _ (by simp [spR, c1, c2, c3, c4, c5, c6]) (by rw [show spR g nb k w = false by simp [spR, c1, c2, c3, c4, c5, c6]]; exact hP) hS d_M_split_92
            · refine lv_aload_n hx hb d_M_split_80 rfl (lv_at hl 0 rfl) ?_
              refine va_get (D := D) (ci := 0) (v := .ref (ad 1)) (C := R_M) (T := F_M) (N := 5) hx hb htb iw_M hown hK hP 0 rfl rfl 0 (by decide) (htb _ mw_161) (fun _ h9 => h9) rfl d_M_split_81 ?_
              refine lv_iload_n hx hb d_M_split_84 rfl (lv_at hl 1 rfl) ?_
              refine rdV (As := [.int (nI k)]) (rest := []) (b := ad 1) ⟨hx, hb, hml, hown, htb⟩ (c_B_isOrdered l D ad kd g z v k (by omega)) (cwV (C := R_B) 1 htb (gV tb_good mw_469 mw_390 mw_391 mw_28 mw_392) rfl rfl rfl (by decide +kernel) ⟨Nat.le_of_ble_eq_true rfl, Nat.le_of_ble_eq_true rfl⟩) hP hK (va_recv hK hP (ci := 1) (q0 := 1) rfl rfl) rfl hl.1 rfl (lv_room (Nat.le_of_ble_eq_true rfl)) d_M_split_85 ⟨Nat.zero_le _, Nat.zero_le _⟩ ?_
              refine lv_if_eq (tgt := 93) hx hb d_M_split_88 (by decide) (fun c7 => ?_) (fun c7 => ?_)
              · replace c7 := bI_f c7
                refine lv_aload_n hx hb d_M_split_93 rfl (lv_at hl 0 rfl) ?_
                refine va_get (D := D) (ci := 0) (v := .ref (ad 1)) (C := R_M) (T := F_M) (N := 5) hx hb htb iw_M hown hK hP 0 rfl rfl 0 (by decide) (htb _ mw_161) (fun _ h9 => h9) rfl d_M_split_94 ?_
                refine lv_iload_n hx hb d_M_split_97 rfl (lv_at hl 1 rfl) ?_
                refine rdV (As := [.int (nI k)]) (rest := []) (b := ad 1) ⟨hx, hb, hml, hown, htb⟩ (c_B_nextFreeNumber l D ad kd g z v nb hnb hb6 k (by omega)) (cwV (C := R_B) 1 htb (gV tb_good mw_491 mw_492 mw_493 mw_28 mw_494) rfl rfl rfl (by decide +kernel) ⟨Nat.le_of_ble_eq_true rfl, Nat.le_of_ble_eq_true rfl⟩) hP hK (va_recv hK hP (ci := 1) (q0 := 1) rfl rfl) rfl hl.1 rfl (lv_room (Nat.le_of_ble_eq_true rfl)) d_M_split_98 ⟨Nat.zero_le _, Nat.zero_le _⟩ ?_
                refine lv_istore_n (lv' := [(3, .int (nfnL g nb k 60 1)), (0, .ref (ad 0)), (1, .int (nI k)), (2, .int w)]) hx hb d_M_split_101 rfl hl (by decide) rfl (fun ls hl => ?_)
                refine lv_iload_n hx hb d_M_split_102 rfl (lv_at hl 0 rfl) ?_
                refine lv_iconst (v := (-1)) hx hb d_M_split_103 (by decide) ?_
                refine lv_icmp_ne (tgt := 109) hx hb d_M_split_104 (by decide) (fun c8 => ?_) (fun c8 => ?_)
                · refine lv_aload_n hx hb d_M_split_109 rfl (lv_at hl 1 rfl) ?_
                  refine va_get (D := D) (ci := 0) (v := .ref (ad 9)) (C := R_M) (T := F_M) (N := 5) hx hb htb iw_M hown hK hP 0 rfl rfl 1 (by decide) (htb _ mw_162) (fun _ h9 => h9) rfl d_M_split_110 ?_
                  refine lv_iload_n hx hb d_M_split_113 rfl (lv_at hl 2 rfl) ?_
                  refine lv_iload_n hx hb d_M_split_114 rfl (lv_at hl 3 rfl) ?_
                  refine wvV (As := [.int (nI k), .int w]) (rest := []) (b := ad 9) ⟨hx, hb, hml, hown, htb⟩ (c_N_take l D ad kd g z v nl hnl hl2 k (by omega) w) (cwV (C := R_N) 2 htb (gV tb_good mw_497 mw_498 mw_499 mw_29 mw_500) rfl rfl rfl (by decide +kernel) ⟨Nat.le_of_ble_eq_true rfl, Nat.le_of_ble_eq_true rfl⟩) hP hK hD hS hA (va_recv hK hP (ci := 2) (q0 := 9) rfl rfl) rfl hl.1 rfl (lv_room (Nat.le_of_ble_eq_true rfl)) d_M_split_115 ⟨Nat.zero_le _, Nat.zero_le _⟩ (fun H locs hP hS => ?_)
                  have hP : va_P D classes (wA ad kd (takN k nl w g) z v) H := hP
                  have hD : va_D A (wA ad kd (takN k nl w g) z v) := wA_D hD
                  refine lv_aload_n hx hb d_M_split_118 rfl (lv_at hl 1 rfl) ?_
                  refine va_get (D := D) (ci := 0) (v := .ref (ad 1)) (C := R_M) (T := F_M) (N := 5) hx hb htb iw_M hown hK hP 0 rfl rfl 0 (by decide) (htb _ mw_161) (fun _ h9 => h9) rfl d_M_split_119 ?_
                  refine lv_aload_n hx hb d_M_split_122 rfl (lv_at hl 1 rfl) ?_
                  refine va_get (D := D) (ci := 0) (v := .ref (ad 1)) (C := R_M) (T := F_M) (N := 5) hx hb htb iw_M hown hK hP 0 rfl rfl 0 (by decide) (htb _ mw_161) (fun _ h9 => h9) rfl d_M_split_123 ?_
                  refine va_get (D := D) (ci := 1) (v := .ref (ad 2)) (C := R_B) (T := F_B) (N := 8) hx hb htb iw_B hown hK hP 1 rfl rfl 1 (by decide) (htb _ mw_58) (fun _ h9 => h9) rfl d_M_split_126 ?_
                  refine lv_iload_n hx hb d_M_split_129 rfl (lv_at hl 2 rfl) ?_
                  refine q_iald hx hb hK hP 2 0 rfl rfl k (by omega) (by decide) d_M_split_130 ?_
                  refine W.eq (congrArg (fun z => F0 m 131 ls (.int z :: [.ref (ad 1)])) (show ((takN k nl w g) 2 k) = (g 2 k) from (congrFun (takN_at (j := 2) (by decide) (by decide) nl w g) k))) ?_
                  refine lv_iload_n hx hb d_M_split_131 rfl (lv_at hl 0 rfl) ?_
                  refine lv_aload_n hx hb d_M_split_132 rfl (lv_at hl 1 rfl) ?_
                  refine va_get (D := D) (ci := 0) (v := .ref (ad 1)) (C := R_M) (T := F_M) (N := 5) hx hb htb iw_M hown hK hP 0 rfl rfl 0 (by decide) (htb _ mw_161) (fun _ h9 => h9) rfl d_M_split_133 ?_
                  refine va_get (D := D) (ci := 1) (v := .ref (ad 4)) (C := R_B) (T := F_B) (N := 8) hx hb htb iw_B hown hK hP 1 rfl rfl 3 (by decide) (htb _ mw_62) (fun _ h9 => h9) rfl d_M_split_136 ?_
                  refine lv_iload_n hx hb d_M_split_139 rfl (lv_at hl 2 rfl) ?_
                  refine q_iald hx hb hK hP 4 2 rfl rfl k (by omega) (by decide) d_M_split_140 ?_
                  refine W.eq (congrArg (fun z => F0 m 141 ls (.int z :: [.int (nfnL g nb k 60 1), .int (g 2 k), .ref (ad 1)])) (show ((takN k nl w g) 4 k) = (g 4 k) from (congrFun (takN_at (j := 4) (by decide) (by decide) nl w g) k))) ?_
                  refine lv_aload_n hx hb d_M_split_141 rfl (lv_at hl 1 rfl) ?_
                  refine va_get (D := D) (ci := 0) (v := .ref (ad 1)) (C := R_M) (T := F_M) (N := 5) hx hb htb iw_M hown hK hP 0 rfl rfl 0 (by decide) (htb _ mw_161) (fun _ h9 => h9) rfl d_M_split_142 ?_
                  refine va_get (D := D) (ci := 1) (v := .ref (ad 7)) (C := R_B) (T := F_B) (N := 8) hx hb htb iw_B hown hK hP 1 rfl rfl 6 (by decide) (htb _ mw_68) (fun _ h9 => h9) rfl d_M_split_145 ?_
                  refine lv_iload_n hx hb d_M_split_148 rfl (lv_at hl 2 rfl) ?_
                  refine q_iald hx hb hK hP 7 5 rfl rfl k (by omega) (by decide) d_M_split_149 ?_
                  refine W.eq (congrArg (fun z => F0 m 150 ls (.int z :: [.int (g 4 k), .int (nfnL g nb k 60 1), .int (g 2 k), .ref (ad 1)])) (show ((takN k nl w g) 7 k) = (g 7 k) from (congrFun (takN_at (j := 7) (by decide) (by decide) nl w g) k))) ?_
                  refine wrV (As := [.int (g 2 k), .int (nfnL g nb k 60 1), .int (g 4 k), .int (g 7 k)]) (rest := []) (b := ad 1) ⟨hx, hb, hml, hown, htb⟩ (c_B_add l D ad kd (takN k nl w g) z v nb hnb hb6 (by omega) (g 2 k) (nfnL g nb k 60 1) (g 4 k) (g 7 k)) (cwV (C := R_B) 4 htb (gV tb_good mw_397 mw_398 mw_399 mw_28 mw_400) rfl rfl rfl (by decide +kernel) ⟨Nat.le_of_ble_eq_true rfl, Nat.le_of_ble_eq_true rfl⟩) hP hK hD hS hA (va_recv hK hP (ci := 1) (q0 := 1) rfl rfl) rfl hl.1 rfl (lv_room (Nat.le_of_ble_eq_true rfl)) d_M_split_150 ⟨Nat.zero_le _, Nat.zero_le _⟩ (fun H locs hP hS => ?_)
                  have hP : va_P D classes (wA ad kd (addB (takN k nl w g) nb (g 2 k) (nfnL g nb k 60 1) (g 4 k) (g 7 k)) z (upd v 2 (nI nb + 1))) H := hP
                  have hD : va_D A (wA ad kd (addB (takN k nl w g) nb (g 2 k) (nfnL g nb k 60 1) (g 4 k) (g 7 k)) z (upd v 2 (nI nb + 1))) := wA_D hD
                  refine lv_istore (lv' := [(4, .int (nI nb)), (3, .int (nfnL g nb k 60 1)), (0, .ref (ad 0)), (1, .int (nI k)), (2, .int w)]) hx hb d_M_split_153 hl (by decide) rfl (fun ls hl => ?_)
                  refine lv_aload_n hx hb d_M_split_155 rfl (lv_at hl 2 rfl) ?_
                  refine va_get (D := D) (ci := 0) (v := .ref (ad 9)) (C := R_M) (T := F_M) (N := 5) hx hb htb iw_M hown hK hP 0 rfl rfl 1 (by decide) (htb _ mw_162) (fun _ h9 => h9) rfl d_M_split_156 ?_
                  refine lv_iload hx hb d_M_split_159 (lv_at hl 0 rfl) ?_
                  refine lv_iload_n hx hb d_M_split_161 rfl (lv_at hl 4 rfl) ?_
                  refine lv_iconst (v := 0) hx hb d_M_split_162 (by decide) ?_
                  refine wrV (As := [.int (nI nb), .int w, .int 0]) (rest := []) (b := ad 9) ⟨hx, hb, hml, hown, htb⟩ (c_N_add l D ad kd (addB (takN k nl w g) nb (g 2 k) (nfnL g nb k 60 1) (g 4 k) (g 7 k)) z (upd v 2 (nI nb + 1)) nl (show (upd v 2 (nI nb + 1)) 3 = nI nl from hnl) hl2 (by omega) nb (by omega) w 0) (cwV (C := R_N) 3 htb (gV tb_good mw_414 mw_415 mw_416 mw_29 mw_417) rfl rfl rfl (by decide +kernel) ⟨Nat.le_of_ble_eq_true rfl, Nat.le_of_ble_eq_true rfl⟩) hP hK hD hS hA (va_recv hK hP (ci := 2) (q0 := 9) rfl rfl) rfl hl.1 rfl (lv_room (Nat.le_of_ble_eq_true rfl)) d_M_split_163 ⟨Nat.zero_le _, Nat.zero_le _⟩ (fun H locs hP hS => ?_)
                  have hP : va_P D classes (wA ad kd (addN (addB (takN k nl w g) nb (g 2 k) (nfnL g nb k 60 1) (g 4 k) (g 7 k)) nl nb w 0) z (upd (upd v 2 (nI nb + 1)) 3 (nI nl + 1))) H := hP
                  have hD : va_D A (wA ad kd (addN (addB (takN k nl w g) nb (g 2 k) (nfnL g nb k 60 1) (g 4 k) (g 7 k)) nl nb w 0) z (upd (upd v 2 (nI nb + 1)) 3 (nI nl + 1))) := wA_D hD
                  refine lv_pop hx hb d_M_split_166 rfl ?_
                  refine lv_iload hx hb d_M_split_167 (lv_at hl 0 rfl) ?_
                  exact hret _ _ _ _ _ (by simp [spR, c1, c2, c3, c4, c5, c6, c7, c8]) (by rw [show spR g nb k w = true by simp [spR, c1, c2, c3, c4, c5, c6, c7, c8]]; exact hP) hS d_M_split_169
                · refine lv_iconst (v := (-1)) hx hb d_M_split_107 (by decide) ?_
                  exact hret _ _ _ _ _ (by simp [spR, c1, c2, c3, c4, c5, c6, c7, c8]) (by rw [show spR g nb k w = false by simp [spR, c1, c2, c3, c4, c5, c6, c7, c8]]; exact hP) hS d_M_split_108
              · replace c7 := bI_t c7
                refine lv_iconst (v := (-1)) hx hb d_M_split_91 (by decide) ?_
                exact hret _ _ _ _ _ (by simp [spR, c1, c2, c3, c4, c5, c6, c7]) (by rw [show spR g nb k w = false by simp [spR, c1, c2, c3, c4, c5, c6, c7]]; exact hP) hS d_M_split_92
        · replace c4 := bI_t c4
          first | (simp [hin, hw1] at c4; done) | (simp [hin, hw1] at c3; done) | (simp [hin, hw1] at c2; done) | (simp [hin, hw1] at c1; done) | (simp at c4; omega) | (exact absurd c4 (by omega)) | (simp at c3; omega) | (exact absurd c3 (by omega)) | (simp at c2; omega) | (exact absurd c2 (by omega)) | (simp at c1; omega) | (exact absurd c1 (by omega))
    · first | (simp [hin, hw1] at c2; done) | (simp [hin, hw1] at c1; done) | (simp at c2; omega) | (exact absurd c2 (by omega)) | (simp at c1; omega) | (exact absurd c1 (by omega))
set_option maxHeartbeats 4000000 in
set_option maxRecDepth 100000 in
theorem c_M_seen (l : Launch) (D : va_G) (ad : Nat → Nat) (kd : Nat → ClassId) (g : Nat → Nat → Int32) (z : Nat → Int64) (v : Nat → Int32) (nb : Nat) (hnb : v 2 = nI nb) (hb6 : nb ≤ 60) (nx : Nat) (hnx : v 4 = nI nx) (hx6 : nx ≤ 60) (j : Nat) (hj : j < nx) (k : Nat) (hk : k < 14) (hs : ∀ n, k = n + 10 → ¬ pickN (fun b => onX z j (nI b)) (nI n) 60 = -1) : RD l y_M_seen (.code y_M_seen b_M_seen 4 (some .int) :: TB) ({ frames := 2, cells := 0, slots := 0, locals := 46 } : Room) [.ref (ad 0), .int (nI j), .int (nI k)] D classes (wA ad kd g z v) (tA kd) (seeS g z nx j k) := by
  refine rd_of (by decide +kernel) (rfl) (Nat.le_of_ble_eq_true rfl) ?_
  intro p e s m args below meth c Q ls hx hb hml htb hown hP hK hl hret
  have hl : lv_has ls 4 [(0, .ref (ad 0)), (1, .int (nI j)), (2, .int (nI k))] := hl
  have hin : inN nx (nI j) = true := inN_nI hj (by omega)
  have hk0 : ¬ nI k < 0 := nI_pos (by omega)
  have hk13 : nI k ≤ 13 := nI_le (b := 13) (by omega) (by decide)
  refine lv_aload_n hx hb d_M_seen_0 rfl (lv_at hl 0 rfl) ?_
  refine va_get (D := D) (ci := 0) (v := .ref (ad 15)) (C := R_M) (T := F_M) (N := 5) hx hb htb iw_M hown hK hP 0 rfl rfl 2 (by decide) (htb _ mw_163) (fun _ h9 => h9) rfl d_M_seen_1 ?_
  refine lv_iload_n hx hb d_M_seen_4 rfl (lv_at hl 1 rfl) ?_
  refine rdV (As := [.int (nI j)]) (rest := []) (b := ad 15) ⟨hx, hb, hml, hown, htb⟩ (c_X_has l D ad kd g z v nx hnx hx6 (nI j)) (cwV (C := R_X) 1 htb (gV tb_good mw_181 mw_182 mw_183 mw_30 mw_184) rfl rfl rfl (by decide +kernel) ⟨Nat.le_of_ble_eq_true rfl, Nat.le_of_ble_eq_true rfl⟩) hP hK (va_recv hK hP (ci := 3) (q0 := 15) rfl rfl) rfl hl.1 rfl (lv_room (Nat.le_of_ble_eq_true rfl)) d_M_seen_5 ⟨Nat.zero_le _, Nat.zero_le _⟩ ?_
  refine lv_if_eq (tgt := 21) hx hb d_M_seen_8 (by decide) (fun c1 => ?_) (fun c1 => ?_)
  · replace c1 := bI_f c1
    first | (simp [hin, hk0] at c1; done) | (simp at c1; omega) | (exact absurd c1 (by omega))
  · replace c1 := bI_t c1
    refine lv_iload_n hx hb d_M_seen_11 rfl (lv_at hl 2 rfl) ?_
    refine lv_if_lt (tgt := 21) hx hb d_M_seen_12 (by decide) (fun c2 => ?_) (fun c2 => ?_)
    · first | (simp [hin, hk0] at c2; done) | (simp [hin, hk0] at c1; done) | (simp at c2; omega) | (exact absurd c2 (by omega)) | (simp at c1; omega) | (exact absurd c1 (by omega))
    · refine lv_iload_n hx hb d_M_seen_15 rfl (lv_at hl 2 rfl) ?_
      refine lv_bipush (v := 13) hx hb d_M_seen_16 (by decide) ?_
      refine q_icmp_le (a := k) (b := 13) (tgt := 31) hx hb (by omega) (by omega) d_M_seen_18 (by decide) (fun c3 => ?_) (fun c3 => ?_)
      · refine lv_iload_n hx hb d_M_seen_31 rfl (lv_at hl 2 rfl) ?_
        rcases (show k = 0 ∨ k = 1 ∨ k = 2 ∨ k = 3 ∨ k = 4 ∨ k = 5 ∨ k = 6 ∨ k = 7 ∨ k = 8 ∨ k = 9 ∨ k = 10 ∨ k = 11 ∨ k = 12 ∨ k = 13 by omega) with rfl | rfl | rfl | rfl | rfl | rfl | rfl | rfl | rfl | rfl | rfl | rfl | rfl | rfl
        · refine lv_tableIn (tgt := 88) hx hb d_M_seen_32 (by decide) (by decide) rfl (by decide) ?_
          refine lv_aload_n hx hb d_M_seen_88 rfl (lv_at hl 0 rfl) ?_
          refine va_get (D := D) (ci := 0) (v := .ref (ad 15)) (C := R_M) (T := F_M) (N := 5) hx hb htb iw_M hown hK hP 0 rfl rfl 2 (by decide) (htb _ mw_163) (fun _ h9 => h9) rfl d_M_seen_89 ?_
          refine va_get (D := D) (ci := 3) (v := .ref (ad 16)) (C := R_X) (T := F_X) (N := 9) hx hb htb iw_X hown hK hP 15 rfl rfl 1 (by decide) (htb _ mw_127) (fun _ h9 => h9) rfl d_M_seen_92 ?_
          refine lv_iload_n hx hb d_M_seen_95 rfl (lv_at hl 1 rfl) ?_
          refine q_iald hx hb hK hP 16 12 rfl rfl j (by omega) (by decide) d_M_seen_96 ?_
          exact hret _ _ _ rfl d_M_seen_97
        · refine lv_tableIn (tgt := 98) hx hb d_M_seen_32 (by decide) (by decide) rfl (by decide) ?_
          refine lv_aload_n hx hb d_M_seen_98 rfl (lv_at hl 0 rfl) ?_
          refine va_get (D := D) (ci := 0) (v := .ref (ad 15)) (C := R_M) (T := F_M) (N := 5) hx hb htb iw_M hown hK hP 0 rfl rfl 2 (by decide) (htb _ mw_163) (fun _ h9 => h9) rfl d_M_seen_99 ?_
          refine va_get (D := D) (ci := 3) (v := .ref (ad 17)) (C := R_X) (T := F_X) (N := 9) hx hb htb iw_X hown hK hP 15 rfl rfl 2 (by decide) (htb _ mw_129) (fun _ h9 => h9) rfl d_M_seen_102 ?_
          refine lv_iload_n hx hb d_M_seen_105 rfl (lv_at hl 1 rfl) ?_
          refine q_iald hx hb hK hP 17 13 rfl rfl j (by omega) (by decide) d_M_seen_106 ?_
          exact hret _ _ _ rfl d_M_seen_107
        · refine lv_tableIn (tgt := 108) hx hb d_M_seen_32 (by decide) (by decide) rfl (by decide) ?_
          refine lv_aload_n hx hb d_M_seen_108 rfl (lv_at hl 0 rfl) ?_
          refine va_get (D := D) (ci := 0) (v := .ref (ad 15)) (C := R_M) (T := F_M) (N := 5) hx hb htb iw_M hown hK hP 0 rfl rfl 2 (by decide) (htb _ mw_163) (fun _ h9 => h9) rfl d_M_seen_109 ?_
          refine va_get (D := D) (ci := 3) (v := .ref (ad 18)) (C := R_X) (T := F_X) (N := 9) hx hb htb iw_X hown hK hP 15 rfl rfl 3 (by decide) (htb _ mw_131) (fun _ h9 => h9) rfl d_M_seen_112 ?_
          refine lv_iload_n hx hb d_M_seen_115 rfl (lv_at hl 1 rfl) ?_
          refine q_iald hx hb hK hP 18 14 rfl rfl j (by omega) (by decide) d_M_seen_116 ?_
          exact hret _ _ _ rfl d_M_seen_117
        · refine lv_tableIn (tgt := 118) hx hb d_M_seen_32 (by decide) (by decide) rfl (by decide) ?_
          refine lv_aload_n hx hb d_M_seen_118 rfl (lv_at hl 0 rfl) ?_
          refine va_get (D := D) (ci := 0) (v := .ref (ad 15)) (C := R_M) (T := F_M) (N := 5) hx hb htb iw_M hown hK hP 0 rfl rfl 2 (by decide) (htb _ mw_163) (fun _ h9 => h9) rfl d_M_seen_119 ?_
          refine va_get (D := D) (ci := 3) (v := .ref (ad 19)) (C := R_X) (T := F_X) (N := 9) hx hb htb iw_X hown hK hP 15 rfl rfl 4 (by decide) (htb _ mw_133) (fun _ h9 => h9) rfl d_M_seen_122 ?_
          refine lv_iload_n hx hb d_M_seen_125 rfl (lv_at hl 1 rfl) ?_
          refine q_iald hx hb hK hP 19 15 rfl rfl j (by omega) (by decide) d_M_seen_126 ?_
          exact hret _ _ _ rfl d_M_seen_127
        · refine lv_tableIn (tgt := 128) hx hb d_M_seen_32 (by decide) (by decide) rfl (by decide) ?_
          refine lv_aload_n hx hb d_M_seen_128 rfl (lv_at hl 0 rfl) ?_
          refine va_get (D := D) (ci := 0) (v := .ref (ad 15)) (C := R_M) (T := F_M) (N := 5) hx hb htb iw_M hown hK hP 0 rfl rfl 2 (by decide) (htb _ mw_163) (fun _ h9 => h9) rfl d_M_seen_129 ?_
          refine lv_iload_n hx hb d_M_seen_132 rfl (lv_at hl 1 rfl) ?_
          refine rdV (As := [.int (nI j)]) (rest := []) (b := ad 15) ⟨hx, hb, hml, hown, htb⟩ (c_X_billsOf l D ad kd g z v j (by omega)) (cwV (C := R_X) 1 htb (gV tb_good mw_193 mw_194 mw_195 mw_30 mw_196) rfl rfl rfl (by decide +kernel) ⟨Nat.le_of_ble_eq_true rfl, Nat.le_of_ble_eq_true rfl⟩) hP hK (va_recv hK hP (ci := 3) (q0 := 15) rfl rfl) rfl hl.1 rfl (lv_room (Nat.le_of_ble_eq_true rfl)) d_M_seen_133 ⟨Nat.zero_le _, Nat.zero_le _⟩ ?_
          exact hret _ _ _ rfl d_M_seen_136
        · refine lv_tableIn (tgt := 137) hx hb d_M_seen_32 (by decide) (by decide) rfl (by decide) ?_
          refine lv_aload_n hx hb d_M_seen_137 rfl (lv_at hl 0 rfl) ?_
          refine va_get (D := D) (ci := 0) (v := .ref (ad 15)) (C := R_M) (T := F_M) (N := 5) hx hb htb iw_M hown hK hP 0 rfl rfl 2 (by decide) (htb _ mw_163) (fun _ h9 => h9) rfl d_M_seen_138 ?_
          refine lv_iload_n hx hb d_M_seen_141 rfl (lv_at hl 1 rfl) ?_
          refine rdV (As := [.int (nI j)]) (rest := []) (b := ad 15) ⟨hx, hb, hml, hown, htb⟩ (c_X_isWaiting l D ad kd g z v j (by omega)) (cwV (C := R_X) 1 htb (gV tb_good mw_247 mw_248 mw_249 mw_30 mw_250) rfl rfl rfl (by decide +kernel) ⟨Nat.le_of_ble_eq_true rfl, Nat.le_of_ble_eq_true rfl⟩) hP hK (va_recv hK hP (ci := 3) (q0 := 15) rfl rfl) rfl hl.1 rfl (lv_room (Nat.le_of_ble_eq_true rfl)) d_M_seen_142 ⟨Nat.zero_le _, Nat.zero_le _⟩ ?_
          refine lv_if_eq (tgt := 152) hx hb d_M_seen_145 (by decide) (fun c4 => ?_) (fun c4 => ?_)
          · replace c4 := bI_f c4
            refine lv_iconst (v := 0) hx hb d_M_seen_152 (by decide) ?_
            exact hret _ _ _ (by simp [seeS, bI, c1, c2, c3, c4]) d_M_seen_153
          · replace c4 := bI_t c4
            refine lv_iconst (v := 1) hx hb d_M_seen_148 (by decide) ?_
            refine lv_goto (tgt := 153) hx hb d_M_seen_149 (by decide) ?_
            exact hret _ _ _ (by simp [seeS, bI, c1, c2, c3, c4]) d_M_seen_153
        · refine lv_tableIn (tgt := 154) hx hb d_M_seen_32 (by decide) (by decide) rfl (by decide) ?_
          refine lv_aload_n hx hb d_M_seen_154 rfl (lv_at hl 0 rfl) ?_
          refine va_get (D := D) (ci := 0) (v := .ref (ad 15)) (C := R_M) (T := F_M) (N := 5) hx hb htb iw_M hown hK hP 0 rfl rfl 2 (by decide) (htb _ mw_163) (fun _ h9 => h9) rfl d_M_seen_155 ?_
          refine va_get (D := D) (ci := 3) (v := .ref (ad 21)) (C := R_X) (T := F_X) (N := 9) hx hb htb iw_X hown hK hP 15 rfl rfl 6 (by decide) (htb _ mw_136) (fun _ h9 => h9) rfl d_M_seen_158 ?_
          refine lv_iload_n hx hb d_M_seen_161 rfl (lv_at hl 1 rfl) ?_
          refine q_iald hx hb hK hP 21 17 rfl rfl j (by omega) (by decide) d_M_seen_162 ?_
          exact hret _ _ _ rfl d_M_seen_163
        · refine lv_tableIn (tgt := 164) hx hb d_M_seen_32 (by decide) (by decide) rfl (by decide) ?_
          refine lv_aload_n hx hb d_M_seen_164 rfl (lv_at hl 0 rfl) ?_
          refine va_get (D := D) (ci := 0) (v := .ref (ad 15)) (C := R_M) (T := F_M) (N := 5) hx hb htb iw_M hown hK hP 0 rfl rfl 2 (by decide) (htb _ mw_163) (fun _ h9 => h9) rfl d_M_seen_165 ?_
          refine va_get (D := D) (ci := 3) (v := .ref (ad 22)) (C := R_X) (T := F_X) (N := 9) hx hb htb iw_X hown hK hP 15 rfl rfl 7 (by decide) (htb _ mw_138) (fun _ h9 => h9) rfl d_M_seen_168 ?_
          refine lv_iload_n hx hb d_M_seen_171 rfl (lv_at hl 1 rfl) ?_
          refine q_iald hx hb hK hP 22 18 rfl rfl j (by omega) (by decide) d_M_seen_172 ?_
          exact hret _ _ _ rfl d_M_seen_173
        · refine lv_tableIn (tgt := 174) hx hb d_M_seen_32 (by decide) (by decide) rfl (by decide) ?_
          refine lv_aload_n hx hb d_M_seen_174 rfl (lv_at hl 0 rfl) ?_
          refine va_get (D := D) (ci := 0) (v := .ref (ad 15)) (C := R_M) (T := F_M) (N := 5) hx hb htb iw_M hown hK hP 0 rfl rfl 2 (by decide) (htb _ mw_163) (fun _ h9 => h9) rfl d_M_seen_175 ?_
          refine lv_iload_n hx hb d_M_seen_178 rfl (lv_at hl 1 rfl) ?_
          refine rdV (As := [.int (nI j)]) (rest := []) (b := ad 15) ⟨hx, hb, hml, hown, htb⟩ (c_X_first l D ad kd g z v nx hnx hx6 j (by omega)) (cwV (C := R_X) 1 htb (gV tb_good mw_238 mw_239 mw_240 mw_30 mw_241) rfl rfl rfl (by decide +kernel) ⟨Nat.le_of_ble_eq_true rfl, Nat.le_of_ble_eq_true rfl⟩) hP hK (va_recv hK hP (ci := 3) (q0 := 15) rfl rfl) rfl hl.1 rfl (lv_room (Nat.le_of_ble_eq_true rfl)) d_M_seen_179 ⟨Nat.zero_le _, Nat.zero_le _⟩ ?_
          exact hret _ _ _ rfl d_M_seen_182
        · refine lv_tableIn (tgt := 183) hx hb d_M_seen_32 (by decide) (by decide) rfl (by decide) ?_
          refine lv_aload_n hx hb d_M_seen_183 rfl (lv_at hl 0 rfl) ?_
          refine va_get (D := D) (ci := 0) (v := .ref (ad 15)) (C := R_M) (T := F_M) (N := 5) hx hb htb iw_M hown hK hP 0 rfl rfl 2 (by decide) (htb _ mw_163) (fun _ h9 => h9) rfl d_M_seen_184 ?_
          refine lv_iload_n hx hb d_M_seen_187 rfl (lv_at hl 1 rfl) ?_
          refine rdV (As := [.int (nI j)]) (rest := []) (b := ad 15) ⟨hx, hb, hml, hown, htb⟩ (c_X_weightSoFar l D ad kd g z v nx hnx hx6 j (by omega)) (cwV (C := R_X) 1 htb (gV tb_good mw_556 mw_557 mw_558 mw_30 mw_559) rfl rfl rfl (by decide +kernel) ⟨Nat.le_of_ble_eq_true rfl, Nat.le_of_ble_eq_true rfl⟩) hP hK (va_recv hK hP (ci := 3) (q0 := 15) rfl rfl) rfl hl.1 rfl (lv_room (Nat.le_of_ble_eq_true rfl)) d_M_seen_188 ⟨Nat.zero_le _, Nat.zero_le _⟩ ?_
          exact hret _ _ _ rfl d_M_seen_191
        · refine lv_tableOut (tgt := 192) hx hb d_M_seen_32 (by decide) (by decide) ?_
          refine lv_aload_n hx hb d_M_seen_192 rfl (lv_at hl 0 rfl) ?_
          refine va_get (D := D) (ci := 0) (v := .ref (ad 15)) (C := R_M) (T := F_M) (N := 5) hx hb htb iw_M hown hK hP 0 rfl rfl 2 (by decide) (htb _ mw_163) (fun _ h9 => h9) rfl d_M_seen_193 ?_
          refine lv_iload_n hx hb d_M_seen_196 rfl (lv_at hl 1 rfl) ?_
          refine lv_iload_n hx hb d_M_seen_197 rfl (lv_at hl 2 rfl) ?_
          refine lv_bipush (v := 10) hx hb d_M_seen_198 (by decide) ?_
          refine lv_isub hx hb d_M_seen_200 ?_
          refine W.eq (congrArg (fun z => F0 m 201 ls (.int z :: [.int (nI j), .ref (ad 15)])) (show ((nI 10) - 10) = (nI 0) from (by decide))) ?_
          refine rdV (As := [.int (nI j), .int (nI 0)]) (rest := []) (b := ad 15) ⟨hx, hb, hml, hown, htb⟩ (c_X_billAt l D ad kd g z v j (by omega) (nI 0)) (cwV (C := R_X) 2 htb (gV tb_good mw_560 mw_561 mw_562 mw_30 mw_563) rfl rfl rfl (by decide +kernel) ⟨Nat.le_of_ble_eq_true rfl, Nat.le_of_ble_eq_true rfl⟩) hP hK (va_recv hK hP (ci := 3) (q0 := 15) rfl rfl) rfl hl.1 rfl (lv_room (Nat.le_of_ble_eq_true rfl)) d_M_seen_201 ⟨Nat.zero_le _, Nat.zero_le _⟩ ?_
          refine lv_istore_n (lv' := [(3, .int (pickN (fun b => onX z j (nI b)) (nI 0) 60)), (0, .ref (ad 0)), (1, .int (nI j)), (2, .int (nI 10))]) hx hb d_M_seen_204 rfl hl (by decide) rfl (fun ls hl => ?_)
          refine lv_iload_n hx hb d_M_seen_205 rfl (lv_at hl 0 rfl) ?_
          refine lv_iconst (v := (-1)) hx hb d_M_seen_206 (by decide) ?_
          refine lv_icmp_ne (tgt := 220) hx hb d_M_seen_207 (by decide) (fun c5 => ?_) (fun c5 => ?_)
          · refine lv_iload_n hx hb d_M_seen_220 rfl (lv_at hl 0 rfl) ?_
            exact hret _ _ _ rfl d_M_seen_221
          · exact absurd c5 (hs 0 rfl)
        · refine lv_tableOut (tgt := 192) hx hb d_M_seen_32 (by decide) (by decide) ?_
          refine lv_aload_n hx hb d_M_seen_192 rfl (lv_at hl 0 rfl) ?_
          refine va_get (D := D) (ci := 0) (v := .ref (ad 15)) (C := R_M) (T := F_M) (N := 5) hx hb htb iw_M hown hK hP 0 rfl rfl 2 (by decide) (htb _ mw_163) (fun _ h9 => h9) rfl d_M_seen_193 ?_
          refine lv_iload_n hx hb d_M_seen_196 rfl (lv_at hl 1 rfl) ?_
          refine lv_iload_n hx hb d_M_seen_197 rfl (lv_at hl 2 rfl) ?_
          refine lv_bipush (v := 10) hx hb d_M_seen_198 (by decide) ?_
          refine lv_isub hx hb d_M_seen_200 ?_
          refine W.eq (congrArg (fun z => F0 m 201 ls (.int z :: [.int (nI j), .ref (ad 15)])) (show ((nI 11) - 10) = (nI 1) from (by decide))) ?_
          refine rdV (As := [.int (nI j), .int (nI 1)]) (rest := []) (b := ad 15) ⟨hx, hb, hml, hown, htb⟩ (c_X_billAt l D ad kd g z v j (by omega) (nI 1)) (cwV (C := R_X) 2 htb (gV tb_good mw_560 mw_561 mw_562 mw_30 mw_563) rfl rfl rfl (by decide +kernel) ⟨Nat.le_of_ble_eq_true rfl, Nat.le_of_ble_eq_true rfl⟩) hP hK (va_recv hK hP (ci := 3) (q0 := 15) rfl rfl) rfl hl.1 rfl (lv_room (Nat.le_of_ble_eq_true rfl)) d_M_seen_201 ⟨Nat.zero_le _, Nat.zero_le _⟩ ?_
          refine lv_istore_n (lv' := [(3, .int (pickN (fun b => onX z j (nI b)) (nI 1) 60)), (0, .ref (ad 0)), (1, .int (nI j)), (2, .int (nI 11))]) hx hb d_M_seen_204 rfl hl (by decide) rfl (fun ls hl => ?_)
          refine lv_iload_n hx hb d_M_seen_205 rfl (lv_at hl 0 rfl) ?_
          refine lv_iconst (v := (-1)) hx hb d_M_seen_206 (by decide) ?_
          refine lv_icmp_ne (tgt := 220) hx hb d_M_seen_207 (by decide) (fun c6 => ?_) (fun c6 => ?_)
          · refine lv_iload_n hx hb d_M_seen_220 rfl (lv_at hl 0 rfl) ?_
            exact hret _ _ _ rfl d_M_seen_221
          · exact absurd c6 (hs 1 rfl)
        · refine lv_tableOut (tgt := 192) hx hb d_M_seen_32 (by decide) (by decide) ?_
          refine lv_aload_n hx hb d_M_seen_192 rfl (lv_at hl 0 rfl) ?_
          refine va_get (D := D) (ci := 0) (v := .ref (ad 15)) (C := R_M) (T := F_M) (N := 5) hx hb htb iw_M hown hK hP 0 rfl rfl 2 (by decide) (htb _ mw_163) (fun _ h9 => h9) rfl d_M_seen_193 ?_
          refine lv_iload_n hx hb d_M_seen_196 rfl (lv_at hl 1 rfl) ?_
          refine lv_iload_n hx hb d_M_seen_197 rfl (lv_at hl 2 rfl) ?_
          refine lv_bipush (v := 10) hx hb d_M_seen_198 (by decide) ?_
          refine lv_isub hx hb d_M_seen_200 ?_
          refine W.eq (congrArg (fun z => F0 m 201 ls (.int z :: [.int (nI j), .ref (ad 15)])) (show ((nI 12) - 10) = (nI 2) from (by decide))) ?_
          refine rdV (As := [.int (nI j), .int (nI 2)]) (rest := []) (b := ad 15) ⟨hx, hb, hml, hown, htb⟩ (c_X_billAt l D ad kd g z v j (by omega) (nI 2)) (cwV (C := R_X) 2 htb (gV tb_good mw_560 mw_561 mw_562 mw_30 mw_563) rfl rfl rfl (by decide +kernel) ⟨Nat.le_of_ble_eq_true rfl, Nat.le_of_ble_eq_true rfl⟩) hP hK (va_recv hK hP (ci := 3) (q0 := 15) rfl rfl) rfl hl.1 rfl (lv_room (Nat.le_of_ble_eq_true rfl)) d_M_seen_201 ⟨Nat.zero_le _, Nat.zero_le _⟩ ?_
          refine lv_istore_n (lv' := [(3, .int (pickN (fun b => onX z j (nI b)) (nI 2) 60)), (0, .ref (ad 0)), (1, .int (nI j)), (2, .int (nI 12))]) hx hb d_M_seen_204 rfl hl (by decide) rfl (fun ls hl => ?_)
          refine lv_iload_n hx hb d_M_seen_205 rfl (lv_at hl 0 rfl) ?_
          refine lv_iconst (v := (-1)) hx hb d_M_seen_206 (by decide) ?_
          refine lv_icmp_ne (tgt := 220) hx hb d_M_seen_207 (by decide) (fun c7 => ?_) (fun c7 => ?_)
          · refine lv_iload_n hx hb d_M_seen_220 rfl (lv_at hl 0 rfl) ?_
            exact hret _ _ _ rfl d_M_seen_221
          · exact absurd c7 (hs 2 rfl)
        · refine lv_tableOut (tgt := 192) hx hb d_M_seen_32 (by decide) (by decide) ?_
          refine lv_aload_n hx hb d_M_seen_192 rfl (lv_at hl 0 rfl) ?_
          refine va_get (D := D) (ci := 0) (v := .ref (ad 15)) (C := R_M) (T := F_M) (N := 5) hx hb htb iw_M hown hK hP 0 rfl rfl 2 (by decide) (htb _ mw_163) (fun _ h9 => h9) rfl d_M_seen_193 ?_
          refine lv_iload_n hx hb d_M_seen_196 rfl (lv_at hl 1 rfl) ?_
          refine lv_iload_n hx hb d_M_seen_197 rfl (lv_at hl 2 rfl) ?_
          refine lv_bipush (v := 10) hx hb d_M_seen_198 (by decide) ?_
          refine lv_isub hx hb d_M_seen_200 ?_
          refine W.eq (congrArg (fun z => F0 m 201 ls (.int z :: [.int (nI j), .ref (ad 15)])) (show ((nI 13) - 10) = (nI 3) from (by decide))) ?_
          refine rdV (As := [.int (nI j), .int (nI 3)]) (rest := []) (b := ad 15) ⟨hx, hb, hml, hown, htb⟩ (c_X_billAt l D ad kd g z v j (by omega) (nI 3)) (cwV (C := R_X) 2 htb (gV tb_good mw_560 mw_561 mw_562 mw_30 mw_563) rfl rfl rfl (by decide +kernel) ⟨Nat.le_of_ble_eq_true rfl, Nat.le_of_ble_eq_true rfl⟩) hP hK (va_recv hK hP (ci := 3) (q0 := 15) rfl rfl) rfl hl.1 rfl (lv_room (Nat.le_of_ble_eq_true rfl)) d_M_seen_201 ⟨Nat.zero_le _, Nat.zero_le _⟩ ?_
          refine lv_istore_n (lv' := [(3, .int (pickN (fun b => onX z j (nI b)) (nI 3) 60)), (0, .ref (ad 0)), (1, .int (nI j)), (2, .int (nI 13))]) hx hb d_M_seen_204 rfl hl (by decide) rfl (fun ls hl => ?_)
          refine lv_iload_n hx hb d_M_seen_205 rfl (lv_at hl 0 rfl) ?_
          refine lv_iconst (v := (-1)) hx hb d_M_seen_206 (by decide) ?_
          refine lv_icmp_ne (tgt := 220) hx hb d_M_seen_207 (by decide) (fun c8 => ?_) (fun c8 => ?_)
          · refine lv_iload_n hx hb d_M_seen_220 rfl (lv_at hl 0 rfl) ?_
            exact hret _ _ _ rfl d_M_seen_221
          · exact absurd c8 (hs 3 rfl)
      · first | (simp [hin, hk0] at c3; done) | (simp [hin, hk0] at c2; done) | (simp [hin, hk0] at c1; done) | (simp at c3; omega) | (exact absurd c3 (by omega)) | (simp at c2; omega) | (exact absurd c2 (by omega)) | (simp at c1; omega) | (exact absurd c1 (by omega))
set_option maxHeartbeats 4000000 in
set_option maxRecDepth 100000 in
theorem c_M_like (l : Launch) (D : va_G) (ad : Nat → Nat) (kd : Nat → ClassId) (g : Nat → Nat → Int32) (z : Nat → Int64) (v : Nat → Int32) (nb : Nat) (hnb : v 2 = nI nb) (hb6 : nb ≤ 60) (hnum : ∀ i, i < nb → ∃ n, n < 100000000 ∧ g 3 i = nI n) (x : Int32) (n0 : Nat) (y : Int32) (hc : isCallS x = true) (hn0 : n0 < 100000000) : RD l y_M_like (.code y_M_like b_M_like 6 (some .int) :: TB) ({ frames := 1, cells := 0, slots := 0, locals := 24 } : Room) [.ref (ad 0), .int x, .int (nI n0), .int y] D classes (wA ad kd g z v) (tA kd) (pickN (likP g x n0) y nb) := by
  refine rd_of (by decide +kernel) (rfl) (Nat.le_of_ble_eq_true rfl) ?_
  intro p e s m args below meth c Q ls hx hb hml htb hown hP hK hl hret
  have hl : lv_has ls 6 [(0, .ref (ad 0)), (1, .int x), (2, .int (nI n0)), (3, .int y)] := hl
  have hn : isNumS (nI n0) = true := by
    unfold isNumS
    rw [if_neg (nI_pos (by omega))]
    exact if_neg (nI_nlt (a := 99999999) (b := n0) (by omega) (by decide))
  refine lv_iload_n hx hb d_M_like_0 rfl (lv_at hl 1 rfl) ?_
  refine rdS (As := [.int x]) (rest := []) ⟨hx, hb, hml, hown, htb⟩ (c_M_isCall l D (wA ad kd g z v) (tA kd) x) (va_cwS 1 htb (gS tb_good mw_227 mw_228 mw_27 mw_229) rfl rfl rfl (by decide +kernel) ⟨Nat.le_of_ble_eq_true rfl, Nat.le_of_ble_eq_true rfl⟩) hP hK rfl hl.1 rfl (lv_room (Nat.le_of_ble_eq_true rfl)) d_M_like_1 ⟨Nat.zero_le _, Nat.zero_le _⟩ ?_
  refine lv_if_eq (tgt := 14) hx hb d_M_like_4 (by decide) (fun c1 => ?_) (fun c1 => ?_)
  · replace c1 := bI_f c1
    first | (simp [hc, hn] at c1; done) | (simp at c1; omega) | (exact absurd c1 (by omega))
  · replace c1 := bI_t c1
    refine lv_iload_n hx hb d_M_like_7 rfl (lv_at hl 2 rfl) ?_
    refine rdS (As := [.int (nI n0)]) (rest := []) ⟨hx, hb, hml, hown, htb⟩ (c_M_isNumber l D (wA ad kd g z v) (tA kd) (nI n0)) (va_cwS 1 htb (gS tb_good mw_291 mw_292 mw_27 mw_293) rfl rfl rfl (by decide +kernel) ⟨Nat.le_of_ble_eq_true rfl, Nat.le_of_ble_eq_true rfl⟩) hP hK rfl hl.1 rfl (lv_room (Nat.le_of_ble_eq_true rfl)) d_M_like_8 ⟨Nat.zero_le _, Nat.zero_le _⟩ ?_
    refine lv_if_ne (tgt := 24) hx hb d_M_like_11 (by decide) (fun c2 => ?_) (fun c2 => ?_)
    · replace c2 := bI_t c2
      refine lv_iconst (v := 0) hx hb d_M_like_24 (by decide) ?_
      refine lv_istore (lv' := [(4, .int 0), (0, .ref (ad 0)), (1, .int x), (2, .int (nI n0)), (3, .int y)]) hx hb d_M_like_25 hl (by decide) rfl (fun ls hl => ?_)
      refine lv_iconst (v := 0) hx hb d_M_like_27 (by decide) ?_
      refine lv_istore (lv' := [(5, .int 0), (4, .int 0), (0, .ref (ad 0)), (1, .int x), (2, .int (nI n0)), (3, .int y)]) hx hb d_M_like_28 hl (by decide) rfl (fun ls hl => ?_)
      have lp30 : ∀ (n : Nat) (i : Nat) (f : Nat), i ≤ nb → nb + 1 ≤ i + n → f = cntN (likP g x n0) i → pickN (likP g x n0) y i = -1 → ∀ (ls : Array Slot), lv_has ls 6 [(0, .ref (ad 0)), (1, .int x), (2, .int (nI n0)), (3, .int y), (4, .int (nI f)), (5, .int (nI i))] → W p l e ({ frames := 1, cells := 0, slots := 0, locals := 24 } : Room) s m args below meth c s.heap [] 0 0 Q (F0 m 30 ls []) := by
        intro n
        induction n with
        | zero => intro i f hi hm hf hp ls hl; exact absurd hm (by omega)
        | succ n ih =>
          intro i f hi hm hf hp ls hl
          refine lv_iload hx hb d_M_like_30 (lv_at hl 5 rfl) ?_
          refine lv_aload_n hx hb d_M_like_32 rfl (lv_at hl 0 rfl) ?_
          refine va_get (D := D) (ci := 0) (v := .ref (ad 1)) (C := R_M) (T := F_M) (N := 5) hx hb htb iw_M hown hK hP 0 rfl rfl 0 (by decide) (htb _ mw_161) (fun _ h9 => h9) rfl d_M_like_33 ?_
          refine va_get (D := D) (ci := 1) (v := .int (nI nb)) (C := R_B) (T := F_B) (N := 8) hx hb htb iw_B hown hK hP 1 rfl rfl 0 (by decide) (htb _ mw_56) (fun _ h9 => h9) (congrArg (fun x => some (Value.int x)) hnb) d_M_like_36 ?_
          refine q_icmp_ge (a := i) (b := nb) (tgt := 91) hx hb (by omega) (by omega) d_M_like_39 (by decide) (fun c3 => ?_) (fun c3 => ?_)
          · refine lv_iconst (v := (-1)) hx hb d_M_like_91 (by decide) ?_
            exact hret _ _ _ (by rw [show nb = i by omega, hp]) d_M_like_92
          · refine lv_aload_n hx hb d_M_like_42 rfl (lv_at hl 0 rfl) ?_
            refine va_get (D := D) (ci := 0) (v := .ref (ad 1)) (C := R_M) (T := F_M) (N := 5) hx hb htb iw_M hown hK hP 0 rfl rfl 0 (by decide) (htb _ mw_161) (fun _ h9 => h9) rfl d_M_like_43 ?_
            refine va_get (D := D) (ci := 1) (v := .ref (ad 2)) (C := R_B) (T := F_B) (N := 8) hx hb htb iw_B hown hK hP 1 rfl rfl 1 (by decide) (htb _ mw_58) (fun _ h9 => h9) rfl d_M_like_46 ?_
            refine lv_iload hx hb d_M_like_49 (lv_at hl 5 rfl) ?_
            refine q_iald hx hb hK hP 2 0 rfl rfl i (by omega) (by decide) d_M_like_51 ?_
            refine lv_iload_n hx hb d_M_like_52 rfl (lv_at hl 1 rfl) ?_
            refine lv_icmp_ne (tgt := 85) hx hb d_M_like_53 (by decide) (fun c4 => ?_) (fun c4 => ?_)
            · have hlk : likP g x n0 i = false := by simp [likP, c4]
              refine lv_iinc (v := (nI (i + 1))) (lv' := [(5, .int (nI (i + 1))), (0, .ref (ad 0)), (1, .int x), (2, .int (nI n0)), (3, .int y), (4, .int (nI f))]) hx hb d_M_like_85 hl (k := 5) rfl (q_inc _) (by decide) rfl (fun ls hl => ?_)
              refine lv_goto (tgt := 30) hx hb d_M_like_88 (by decide) ?_
              exact ih (i + 1) f (by omega) (by omega) (by rw [cntN_f (P := (likP g x n0)) hlk, hf]) (pickN_miss hp hlk) _ (lv_sub hl [1, 2, 3, 4, 5, 0] rfl)
            · obtain ⟨nn, hnn, enn⟩ := hnum i (by omega)
              have hix : ix (g 3 i) = nn := by rw [enn, ix_nI (by omega)]
              refine lv_aload_n hx hb d_M_like_56 rfl (lv_at hl 0 rfl) ?_
              refine va_get (D := D) (ci := 0) (v := .ref (ad 1)) (C := R_M) (T := F_M) (N := 5) hx hb htb iw_M hown hK hP 0 rfl rfl 0 (by decide) (htb _ mw_161) (fun _ h9 => h9) rfl d_M_like_57 ?_
              refine va_get (D := D) (ci := 1) (v := .ref (ad 3)) (C := R_B) (T := F_B) (N := 8) hx hb htb iw_B hown hK hP 1 rfl rfl 2 (by decide) (htb _ mw_60) (fun _ h9 => h9) rfl d_M_like_60 ?_
              refine lv_iload hx hb d_M_like_63 (lv_at hl 5 rfl) ?_
              refine q_iald hx hb hK hP 3 1 rfl rfl i (by omega) (by decide) d_M_like_65 ?_
              refine W.eq (congrArg (fun z => F0 m 66 ls (.int z :: [])) (show (g 3 i) = (nI nn) from enn)) ?_
              refine lv_iload_n hx hb d_M_like_66 rfl (lv_at hl 2 rfl) ?_
              refine rdS (As := [.int (nI nn), .int (nI n0)]) (rest := []) ⟨hx, hb, hml, hown, htb⟩ (c_M_areAlike l D (wA ad kd g z v) (tA kd) nn n0 (by omega) (by omega)) (va_cwS 2 htb (gS tb_good mw_587 mw_588 mw_27 mw_589) rfl rfl rfl (by decide +kernel) ⟨Nat.le_of_ble_eq_true rfl, Nat.le_of_ble_eq_true rfl⟩) hP hK rfl hl.1 rfl (lv_room (Nat.le_of_ble_eq_true rfl)) d_M_like_67 ⟨Nat.zero_le _, Nat.zero_le _⟩ ?_
              refine lv_if_eq (tgt := 85) hx hb d_M_like_70 (by decide) (fun c5 => ?_) (fun c5 => ?_)
              · replace c5 := bI_f c5
                have hlk : likP g x n0 i = false := by simp [likP, c4, hix, c5]
                refine lv_iinc (v := (nI (i + 1))) (lv' := [(5, .int (nI (i + 1))), (0, .ref (ad 0)), (1, .int x), (2, .int (nI n0)), (3, .int y), (4, .int (nI f))]) hx hb d_M_like_85 hl (k := 5) rfl (q_inc _) (by decide) rfl (fun ls hl => ?_)
                refine lv_goto (tgt := 30) hx hb d_M_like_88 (by decide) ?_
                exact ih (i + 1) f (by omega) (by omega) (by rw [cntN_f (P := (likP g x n0)) hlk, hf]) (pickN_miss hp hlk) _ (lv_sub hl [1, 2, 3, 4, 5, 0] rfl)
              · replace c5 := bI_t c5
                have hlk : likP g x n0 i = true := by simp [likP, c4, hix, c5]
                refine lv_iload hx hb d_M_like_73 (lv_at hl 4 rfl) ?_
                refine lv_iload_n hx hb d_M_like_75 rfl (lv_at hl 3 rfl) ?_
                refine lv_icmp_ne (tgt := 82) hx hb d_M_like_76 (by decide) (fun c6 => ?_) (fun c6 => ?_)
                · refine lv_iinc (v := (nI (f + 1))) (lv' := [(4, .int (nI (f + 1))), (0, .ref (ad 0)), (1, .int x), (2, .int (nI n0)), (3, .int y), (5, .int (nI i))]) hx hb d_M_like_82 hl (k := 4) rfl (q_inc _) (by decide) rfl (fun ls hl => ?_)
                  refine lv_iinc (v := (nI (i + 1))) (lv' := [(5, .int (nI (i + 1))), (4, .int (nI (f + 1))), (0, .ref (ad 0)), (1, .int x), (2, .int (nI n0)), (3, .int y)]) hx hb d_M_like_85 hl (k := 5) rfl (q_inc _) (by decide) rfl (fun ls hl => ?_)
                  refine lv_goto (tgt := 30) hx hb d_M_like_88 (by decide) ?_
                  exact ih (i + 1) (f + 1) (by omega) (by omega) (by rw [cntN_t (P := (likP g x n0)) hlk, hf]) (pickN_pass hp (by rw [← hf]; assumption)) _ (lv_sub hl [2, 3, 4, 5, 1, 0] rfl)
                · refine lv_iload hx hb d_M_like_79 (lv_at hl 5 rfl) ?_
                  exact hret _ _ _ (by rw [pickN_hit (i := i) (by omega) hp hlk (by rw [← hf]; assumption) (by omega)]) d_M_like_81
      exact lp30 (nb + 1) 0 0 (Nat.zero_le _) (by omega) rfl rfl _ (lv_sub hl [2, 3, 4, 5, 1, 0] rfl)
    · replace c2 := bI_f c2
      first | (simp [hc, hn] at c2; done) | (simp [hc, hn] at c1; done) | (simp at c2; omega) | (exact absurd c2 (by omega)) | (simp at c1; omega) | (exact absurd c1 (by omega))
