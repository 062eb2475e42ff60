set_option maxHeartbeats 4000000 in
set_option maxRecDepth 100000 in
theorem c_M_on (l : Launch) (D : va_G) (ad : Nat → Nat) (kd : Nat → ClassId) (g : Nat → Nat → Int32) (z : Nat → Int64) (v : Nat → Int32) (nb : Nat) (hnb : v 2 = nI nb) (hb6 : nb ≤ 60) (nx : Nat) (hnx : v 4 = nI nx) (hx6 : nx ≤ 60) (x y : Int32) : WRi l y_M_on (.code y_M_on b_M_on 3 (some .boolean) :: TB) ({ frames := 2, cells := 0, slots := 0, locals := 42 } : Room) [.ref (ad 0), .int x, .int y] D classes (wA ad kd g z v) (wA ad kd g (onZ g z nb nx x y) v) (tA kd) (bI (onR g z nb nx x y)) := by
  refine wr_of (by decide +kernel) (bI_nar _) (Nat.le_of_ble_eq_true rfl) ?_
  intro p e s m args below meth c Q ls A hx hb hml htb hown hP hK hD hS hA hl hret
  have hl : lv_has ls 3 [(0, .ref (ad 0)), (1, .int x), (2, .int y)] := hl
  refine lv_aload_n hx hb d_M_on_0 rfl (lv_at hl 0 rfl) ?_
  refine va_get (D := D) (ci := 0) (v := .ref (ad 15)) (C := R_M) (T := F_M) (N := 5) hx hb htb iw_M hown hK hP 0 rfl rfl 2 (by decide) (htb _ mw_163) (fun _ h9 => h9) rfl d_M_on_1 ?_
  refine lv_iload_n hx hb d_M_on_4 rfl (lv_at hl 1 rfl) ?_
  refine rdV (As := [.int x]) (rest := []) (b := ad 15) ⟨hx, hb, hml, hown, htb⟩ (c_X_has l D ad kd g z v nx hnx hx6 x) (cwV (C := R_X) 1 htb (gV tb_good mw_181 mw_182 mw_183 mw_30 mw_184) rfl rfl rfl (by decide +kernel) ⟨Nat.le_of_ble_eq_true rfl, Nat.le_of_ble_eq_true rfl⟩) hP hK (va_recv hK hP (ci := 3) (q0 := 15) rfl rfl) rfl hl.1 rfl (lv_room (Nat.le_of_ble_eq_true rfl)) d_M_on_5 ⟨Nat.zero_le _, Nat.zero_le _⟩ ?_
  refine lv_if_eq (tgt := 43) hx hb d_M_on_8 (by decide) (fun c1 => ?_) (fun c1 => ?_)
  · replace c1 := bI_f c1
    refine lv_iconst (v := 0) hx hb d_M_on_43 (by decide) ?_
    exact hret _ _ _ _ _ (by simp [onR, bI, c1]) (by rw [show onZ g z nb nx x y = z by simp [onZ, onR, c1]]; exact hP) hS d_M_on_44
  · replace c1 := bI_t c1
    obtain ⟨k, hk, rfl⟩ := inN_ix c1 (by omega)
    have ek : ix (nI k) = k := ix_nI (by omega)
    have mk : ¬ nI k = -1 := nI_nm1 (by omega)
    refine lv_aload_n hx hb d_M_on_11 rfl (lv_at hl 0 rfl) ?_
    refine va_get (D := D) (ci := 0) (v := .ref (ad 1)) (C := R_M) (T := F_M) (N := 5) hx hb htb iw_M hown hK hP 0 rfl rfl 0 (by decide) (htb _ mw_161) (fun _ h9 => h9) rfl d_M_on_12 ?_
    refine lv_iload_n hx hb d_M_on_15 rfl (lv_at hl 2 rfl) ?_
    refine rdV (As := [.int y]) (rest := []) (b := ad 1) ⟨hx, hb, hml, hown, htb⟩ (c_B_has l D ad kd g z v nb hnb hb6 y) (cwV (C := R_B) 1 htb (gV tb_good mw_185 mw_186 mw_187 mw_28 mw_188) rfl rfl rfl (by decide +kernel) ⟨Nat.le_of_ble_eq_true rfl, Nat.le_of_ble_eq_true rfl⟩) hP hK (va_recv hK hP (ci := 1) (q0 := 1) rfl rfl) rfl hl.1 rfl (lv_room (Nat.le_of_ble_eq_true rfl)) d_M_on_16 ⟨Nat.zero_le _, Nat.zero_le _⟩ ?_
    refine lv_if_eq (tgt := 43) hx hb d_M_on_19 (by decide) (fun c2 => ?_) (fun c2 => ?_)
    · replace c2 := bI_f c2
      refine lv_iconst (v := 0) hx hb d_M_on_43 (by decide) ?_
      exact hret _ _ _ _ _ (by simp [onR, bI, c1, ek, mk, c2]) (by rw [show onZ g z nb nx (nI k) y = z by simp [onZ, onR, c1, ek, mk, c2]]; exact hP) hS d_M_on_44
    · replace c2 := bI_t c2
      obtain ⟨j, hj, rfl⟩ := inN_ix c2 (by omega)
      have ej : ix (nI j) = j := ix_nI (by omega)
      have mj : ¬ nI j = -1 := nI_nm1 (by omega)
      refine lv_aload_n hx hb d_M_on_22 rfl (lv_at hl 0 rfl) ?_
      refine va_get (D := D) (ci := 0) (v := .ref (ad 15)) (C := R_M) (T := F_M) (N := 5) hx hb htb iw_M hown hK hP 0 rfl rfl 2 (by decide) (htb _ mw_163) (fun _ h9 => h9) rfl d_M_on_23 ?_
      refine va_get (D := D) (ci := 3) (v := .ref (ad 16)) (C := R_X) (T := F_X) (N := 9) hx hb htb iw_X hown hK hP 15 rfl rfl 1 (by decide) (htb _ mw_127) (fun _ h9 => h9) rfl d_M_on_26 ?_
      refine lv_iload_n hx hb d_M_on_29 rfl (lv_at hl 1 rfl) ?_
      refine q_iald hx hb hK hP 16 12 rfl rfl k (by omega) (by decide) d_M_on_30 ?_
      refine lv_aload_n hx hb d_M_on_31 rfl (lv_at hl 0 rfl) ?_
      refine va_get (D := D) (ci := 0) (v := .ref (ad 1)) (C := R_M) (T := F_M) (N := 5) hx hb htb iw_M hown hK hP 0 rfl rfl 0 (by decide) (htb _ mw_161) (fun _ h9 => h9) rfl d_M_on_32 ?_
      refine va_get (D := D) (ci := 1) (v := .ref (ad 2)) (C := R_B) (T := F_B) (N := 8) hx hb htb iw_B hown hK hP 1 rfl rfl 1 (by decide) (htb _ mw_58) (fun _ h9 => h9) rfl d_M_on_35 ?_
      refine lv_iload_n hx hb d_M_on_38 rfl (lv_at hl 2 rfl) ?_
      refine q_iald hx hb hK hP 2 0 rfl rfl j (by omega) (by decide) d_M_on_39 ?_
      refine lv_icmp_eq (tgt := 45) hx hb d_M_on_40 (by decide) (fun c3 => ?_) (fun c3 => ?_)
      · refine lv_aload_n hx hb d_M_on_45 rfl (lv_at hl 0 rfl) ?_
        refine va_get (D := D) (ci := 0) (v := .ref (ad 15)) (C := R_M) (T := F_M) (N := 5) hx hb htb iw_M hown hK hP 0 rfl rfl 2 (by decide) (htb _ mw_163) (fun _ h9 => h9) rfl d_M_on_46 ?_
        refine lv_iload_n hx hb d_M_on_49 rfl (lv_at hl 1 rfl) ?_
        refine lv_iload_n hx hb d_M_on_50 rfl (lv_at hl 2 rfl) ?_
        refine rdV (As := [.int (nI k), .int (nI j)]) (rest := []) (b := ad 15) ⟨hx, hb, hml, hown, htb⟩ (c_X_isOn l D ad kd g z v k (by omega) (nI j)) (cwV (C := R_X) 2 htb (gV tb_good mw_189 mw_190 mw_191 mw_30 mw_192) rfl rfl rfl (by decide +kernel) ⟨Nat.le_of_ble_eq_true rfl, Nat.le_of_ble_eq_true rfl⟩) hP hK (va_recv hK hP (ci := 3) (q0 := 15) rfl rfl) rfl hl.1 rfl (lv_room (Nat.le_of_ble_eq_true rfl)) d_M_on_51 ⟨Nat.zero_le _, Nat.zero_le _⟩ ?_
        refine lv_if_ne (tgt := 80) hx hb d_M_on_54 (by decide) (fun c4 => ?_) (fun c4 => ?_)
        · replace c4 := bI_t c4
          refine lv_iconst (v := 0) hx hb d_M_on_80 (by decide) ?_
          exact hret _ _ _ _ _ (by simp [onR, bI, c1, ek, mk, c2, ej, mj, c3, c4]) (by rw [show onZ g z nb nx (nI k) (nI j) = z by simp [onZ, onR, c1, ek, mk, c2, ej, mj, c3, c4]]; exact hP) hS d_M_on_81
        · replace c4 := bI_f c4
          refine lv_aload_n hx hb d_M_on_57 rfl (lv_at hl 0 rfl) ?_
          refine va_get (D := D) (ci := 0) (v := .ref (ad 15)) (C := R_M) (T := F_M) (N := 5) hx hb htb iw_M hown hK hP 0 rfl rfl 2 (by decide) (htb _ mw_163) (fun _ h9 => h9) rfl d_M_on_58 ?_
          refine lv_iload_n hx hb d_M_on_61 rfl (lv_at hl 1 rfl) ?_
          refine rdV (As := [.int (nI k)]) (rest := []) (b := ad 15) ⟨hx, hb, hml, hown, htb⟩ (c_X_billsOf l D ad kd g z v k (by omega)) (cwV (C := R_X) 1 htb (gV tb_good mw_193 mw_194 mw_195 mw_30 mw_196) rfl rfl rfl (by decide +kernel) ⟨Nat.le_of_ble_eq_true rfl, Nat.le_of_ble_eq_true rfl⟩) hP hK (va_recv hK hP (ci := 3) (q0 := 15) rfl rfl) rfl hl.1 rfl (lv_room (Nat.le_of_ble_eq_true rfl)) d_M_on_62 ⟨Nat.zero_le _, Nat.zero_le _⟩ ?_
          refine lv_iconst (v := 4) hx hb d_M_on_65 (by decide) ?_
          have hpc := popc_le (z k)
          refine q_icmp_ge (a := popc (z k)) (b := 4) (tgt := 80) hx hb (by omega) (by decide) d_M_on_66 (by decide) (fun c5 => ?_) (fun c5 => ?_)
          · refine lv_iconst (v := 0) hx hb d_M_on_80 (by decide) ?_
            exact hret _ _ _ _ _ (by simp [onR, bI, c1, ek, mk, c2, ej, mj, c3, c4, c5]) (by rw [show onZ g z nb nx (nI k) (nI j) = z by simp [onZ, onR, c1, ek, mk, c2, ej, mj, c3, c4, c5]]; exact hP) hS d_M_on_81
          · refine lv_aload_n hx hb d_M_on_69 rfl (lv_at hl 0 rfl) ?_
            refine va_get (D := D) (ci := 0) (v := .ref (ad 15)) (C := R_M) (T := F_M) (N := 5) hx hb htb iw_M hown hK hP 0 rfl rfl 2 (by decide) (htb _ mw_163) (fun _ h9 => h9) rfl d_M_on_70 ?_
            refine lv_iload_n hx hb d_M_on_73 rfl (lv_at hl 1 rfl) ?_
            refine rdV (As := [.int (nI k)]) (rest := []) (b := ad 15) ⟨hx, hb, hml, hown, htb⟩ (c_X_isOrdered l D ad kd g z v k (by omega)) (cwV (C := R_X) 1 htb (gV tb_good mw_203 mw_204 mw_205 mw_30 mw_206) rfl rfl rfl (by decide +kernel) ⟨Nat.le_of_ble_eq_true rfl, Nat.le_of_ble_eq_true rfl⟩) hP hK (va_recv hK hP (ci := 3) (q0 := 15) rfl rfl) rfl hl.1 rfl (lv_room (Nat.le_of_ble_eq_true rfl)) d_M_on_74 ⟨Nat.zero_le _, Nat.zero_le _⟩ ?_
            refine lv_if_eq (tgt := 82) hx hb d_M_on_77 (by decide) (fun c6 => ?_) (fun c6 => ?_)
            · replace c6 := bI_f c6
              refine lv_aload_n hx hb d_M_on_82 rfl (lv_at hl 0 rfl) ?_
              refine va_get (D := D) (ci := 0) (v := .ref (ad 15)) (C := R_M) (T := F_M) (N := 5) hx hb htb iw_M hown hK hP 0 rfl rfl 2 (by decide) (htb _ mw_163) (fun _ h9 => h9) rfl d_M_on_83 ?_
              refine lv_iload_n hx hb d_M_on_86 rfl (lv_at hl 1 rfl) ?_
              refine lv_iload_n hx hb d_M_on_87 rfl (lv_at hl 2 rfl) ?_
              refine wvV (As := [.int (nI k), .int (nI j)]) (rest := []) (b := ad 15) ⟨hx, hb, hml, hown, htb⟩ (c_X_putOn l D ad kd g z v k (by omega) (nI j)) (cwV (C := R_X) 2 htb (gV tb_good mw_207 mw_208 mw_209 mw_30 mw_210) rfl rfl rfl (by decide +kernel) ⟨Nat.le_of_ble_eq_true rfl, Nat.le_of_ble_eq_true rfl⟩) hP hK hD hS hA (va_recv hK hP (ci := 3) (q0 := 15) rfl rfl) rfl hl.1 rfl (lv_room (Nat.le_of_ble_eq_true rfl)) d_M_on_88 ⟨Nat.zero_le _, Nat.zero_le _⟩ (fun H locs hP hS => ?_)
              have hP : va_P D classes (wA ad kd g (vp_updL z k (z k ||| bitM (nI j))) v) H := hP
              have hD : va_D A (wA ad kd g (vp_updL z k (z k ||| bitM (nI j))) v) := wA_D hD
              refine lv_iconst (v := 1) hx hb d_M_on_91 (by decide) ?_
              exact hret _ _ _ _ _ (by simp [onR, bI, c1, ek, mk, c2, ej, mj, c3, c4, c5, c6]) (by rw [show onZ g z nb nx (nI k) (nI j) = (vp_updL z k (z k ||| bitM (nI j))) by simp [onZ, onR, c1, ek, mk, c2, ej, mj, c3, c4, c5, c6]]; exact hP) hS d_M_on_92
            · replace c6 := bI_t c6
              refine lv_iconst (v := 0) hx hb d_M_on_80 (by decide) ?_
              exact hret _ _ _ _ _ (by simp [onR, bI, c1, ek, mk, c2, ej, mj, c3, c4, c5, c6]) (by rw [show onZ g z nb nx (nI k) (nI j) = z by simp [onZ, onR, c1, ek, mk, c2, ej, mj, c3, c4, c5, c6]]; exact hP) hS d_M_on_81
      · refine lv_iconst (v := 0) hx hb d_M_on_43 (by decide) ?_
        exact hret _ _ _ _ _ (by simp [onR, bI, c1, ek, mk, c2, ej, mj, c3]) (by rw [show onZ g z nb nx (nI k) (nI j) = z by simp [onZ, onR, c1, ek, mk, c2, ej, mj, c3]]; exact hP) hS d_M_on_44
set_option maxHeartbeats 4000000 in
set_option maxRecDepth 100000 in
theorem c_M_land (l : Launch) (D : va_G) (ad : Nat → Nat) (kd : Nat → ClassId) (g : Nat → Nat → Int32) (z : Nat → Int64) (v : Nat → Int32) (nx : Nat) (hnx : v 4 = nI nx) (hx6 : nx ≤ 60) (x y : Int32) : WRi l y_M_land (.code y_M_land b_M_land 3 (some .boolean) :: TB) ({ frames := 1, cells := 0, slots := 0, locals := 21 } : Room) [.ref (ad 0), .int x, .int y] D classes (wA ad kd g z v) (wA ad kd (lanG g nx x y) z v) (tA kd) (bI (lanR g nx x y)) := by
  refine wr_of (by decide +kernel) (bI_nar _) (Nat.le_of_ble_eq_true rfl) ?_
  intro p e s m args below meth c Q ls A hx hb hml htb hown hP hK hD hS hA hl hret
  have hl : lv_has ls 3 [(0, .ref (ad 0)), (1, .int x), (2, .int y)] := hl
  refine lv_aload_n hx hb d_M_land_0 rfl (lv_at hl 0 rfl) ?_
  refine va_get (D := D) (ci := 0) (v := .ref (ad 15)) (C := R_M) (T := F_M) (N := 5) hx hb htb iw_M hown hK hP 0 rfl rfl 2 (by decide) (htb _ mw_163) (fun _ h9 => h9) rfl d_M_land_1 ?_
  refine lv_iload_n hx hb d_M_land_4 rfl (lv_at hl 1 rfl) ?_
  refine rdV (As := [.int x]) (rest := []) (b := ad 15) ⟨hx, hb, hml, hown, htb⟩ (c_X_has l D ad kd g z v nx hnx hx6 x) (cwV (C := R_X) 1 htb (gV tb_good mw_181 mw_182 mw_183 mw_30 mw_184) rfl rfl rfl (by decide +kernel) ⟨Nat.le_of_ble_eq_true rfl, Nat.le_of_ble_eq_true rfl⟩) hP hK (va_recv hK hP (ci := 3) (q0 := 15) rfl rfl) rfl hl.1 rfl (lv_room (Nat.le_of_ble_eq_true rfl)) d_M_land_5 ⟨Nat.zero_le _, Nat.zero_le _⟩ ?_
  refine lv_if_eq (tgt := 29) hx hb d_M_land_8 (by decide) (fun c1 => ?_) (fun c1 => ?_)
  · replace c1 := bI_f c1
    refine lv_iconst (v := 0) hx hb d_M_land_29 (by decide) ?_
    exact hret _ _ _ _ _ (by simp [lanR, bI, c1]) (by rw [show lanG g nx x y = g by simp [lanG, lanR, c1]]; exact hP) hS d_M_land_30
  · replace c1 := bI_t c1
    obtain ⟨k, hk, rfl⟩ := inN_ix c1 (by omega)
    have ek : ix (nI k) = k := ix_nI (by omega)
    have mk : ¬ nI k = -1 := nI_nm1 (by omega)
    refine lv_aload_n hx hb d_M_land_11 rfl (lv_at hl 0 rfl) ?_
    refine va_get (D := D) (ci := 0) (v := .ref (ad 15)) (C := R_M) (T := F_M) (N := 5) hx hb htb iw_M hown hK hP 0 rfl rfl 2 (by decide) (htb _ mw_163) (fun _ h9 => h9) rfl d_M_land_12 ?_
    refine lv_iload_n hx hb d_M_land_15 rfl (lv_at hl 1 rfl) ?_
    refine rdV (As := [.int (nI k)]) (rest := []) (b := ad 15) ⟨hx, hb, hml, hown, htb⟩ (c_X_hasLanded l D ad kd g z v k (by omega)) (cwV (C := R_X) 1 htb (gV tb_good mw_215 mw_216 mw_217 mw_30 mw_218) rfl rfl rfl (by decide +kernel) ⟨Nat.le_of_ble_eq_true rfl, Nat.le_of_ble_eq_true rfl⟩) hP hK (va_recv hK hP (ci := 3) (q0 := 15) rfl rfl) rfl hl.1 rfl (lv_room (Nat.le_of_ble_eq_true rfl)) d_M_land_16 ⟨Nat.zero_le _, Nat.zero_le _⟩ ?_
    refine lv_if_ne (tgt := 29) hx hb d_M_land_19 (by decide) (fun c2 => ?_) (fun c2 => ?_)
    · replace c2 := bI_t c2
      refine lv_iconst (v := 0) hx hb d_M_land_29 (by decide) ?_
      exact hret _ _ _ _ _ (by simp [lanR, bI, c1, ek, mk, c2]) (by rw [show lanG g nx (nI k) y = g by simp [lanG, lanR, c1, ek, mk, c2]]; exact hP) hS d_M_land_30
    · replace c2 := bI_f c2
      refine lv_iload_n hx hb d_M_land_22 rfl (lv_at hl 2 rfl) ?_
      refine rdS (As := [.int y]) (rest := []) ⟨hx, hb, hml, hown, htb⟩ (c_M_isWeight l D (wA ad kd g z v) (tA kd) y) (va_cwS 1 htb (gS tb_good mw_219 mw_220 mw_27 mw_221) rfl rfl rfl (by decide +kernel) ⟨Nat.le_of_ble_eq_true rfl, Nat.le_of_ble_eq_true rfl⟩) hP hK rfl hl.1 rfl (lv_room (Nat.le_of_ble_eq_true rfl)) d_M_land_23 ⟨Nat.zero_le _, Nat.zero_le _⟩ ?_
      refine lv_if_ne (tgt := 31) hx hb d_M_land_26 (by decide) (fun c3 => ?_) (fun c3 => ?_)
      · replace c3 := bI_t c3
        refine lv_aload_n hx hb d_M_land_31 rfl (lv_at hl 0 rfl) ?_
        refine va_get (D := D) (ci := 0) (v := .ref (ad 15)) (C := R_M) (T := F_M) (N := 5) hx hb htb iw_M hown hK hP 0 rfl rfl 2 (by decide) (htb _ mw_163) (fun _ h9 => h9) rfl d_M_land_32 ?_
        refine va_get (D := D) (ci := 3) (v := .ref (ad 19)) (C := R_X) (T := F_X) (N := 9) hx hb htb iw_X hown hK hP 15 rfl rfl 4 (by decide) (htb _ mw_133) (fun _ h9 => h9) rfl d_M_land_35 ?_
        refine lv_iload_n hx hb d_M_land_38 rfl (lv_at hl 1 rfl) ?_
        refine lv_iload_n hx hb d_M_land_39 rfl (lv_at hl 2 rfl) ?_
        refine q_iast hx hb hK hP hD hS 19 15 rfl rfl k (x := y) (by omega) (by decide) d_M_land_40 (fun H locs hP hD hS => ?_)
        have hP : va_P D classes (wA ad kd (up g 19 k y) z v) H := hP
        have hD : va_D A (wA ad kd (up g 19 k y) z v) := hD
        refine lv_iconst (v := 1) hx hb d_M_land_41 (by decide) ?_
        exact hret _ _ _ _ _ (by simp [lanR, bI, c1, ek, mk, c2, c3]) (by rw [show lanG g nx (nI k) y = (up g 19 k y) by simp [lanG, lanR, c1, ek, mk, c2, c3]]; exact hP) hS d_M_land_42
      · replace c3 := bI_f c3
        refine lv_iconst (v := 0) hx hb d_M_land_29 (by decide) ?_
        exact hret _ _ _ _ _ (by simp [lanR, bI, c1, ek, mk, c2, c3]) (by rw [show lanG g nx (nI k) y = g by simp [lanG, lanR, c1, ek, mk, c2, c3]]; exact hP) hS d_M_land_30
set_option maxHeartbeats 4000000 in
set_option maxRecDepth 100000 in
theorem c_M_arrive (l : Launch) (D : va_G) (ad : Nat → Nat) (kd : Nat → ClassId) (g : Nat → Nat → Int32) (z : Nat → Int64) (v : Nat → Int32) (x : Int32) : WRi l y_M_arrive (.code y_M_arrive b_M_arrive 2 (some .boolean) :: TB) ({ frames := 1, cells := 0, slots := 0, locals := 21 } : Room) [.ref (ad 0), .int x] D classes (wA ad kd g z v) (wA ad kd g z (arvV v x)) (tA kd) (bI (arrR v x)) := by
  refine wr_of (by decide +kernel) (bI_nar _) (Nat.le_of_ble_eq_true rfl) ?_
  intro p e s m args below meth c Q ls A hx hb hml htb hown hP hK hD hS hA hl hret
  have hl : lv_has ls 2 [(0, .ref (ad 0)), (1, .int x)] := hl
  refine lv_iload_n hx hb d_M_arrive_0 rfl (lv_at hl 1 rfl) ?_
  refine rdS (As := [.int x]) (rest := []) ⟨hx, hb, hml, hown, htb⟩ (c_M_isCall l D (wA ad kd g z v) (tA kd) x) (va_cwS 1 htb (gS tb_good mw_227 mw_228 mw_27 mw_229) rfl rfl rfl (by decide +kernel) ⟨Nat.le_of_ble_eq_true rfl, Nat.le_of_ble_eq_true rfl⟩) hP hK rfl hl.1 rfl (lv_room (Nat.le_of_ble_eq_true rfl)) d_M_arrive_1 ⟨Nat.zero_le _, Nat.zero_le _⟩ ?_
  refine lv_if_eq (tgt := 15) hx hb d_M_arrive_4 (by decide) (fun c1 => ?_) (fun c1 => ?_)
  · replace c1 := bI_f c1
    refine lv_iconst (v := 0) hx hb d_M_arrive_15 (by decide) ?_
    exact hret _ _ _ _ _ (by simp [arrR, bI, c1]) (by rw [show arvV v x = v by simp [arvV, arrR, c1]]; exact hP) hS d_M_arrive_16
  · replace c1 := bI_t c1
    refine lv_aload_n hx hb d_M_arrive_7 rfl (lv_at hl 0 rfl) ?_
    refine lv_iload_n hx hb d_M_arrive_8 rfl (lv_at hl 1 rfl) ?_
    refine rdV (As := [.int x]) (rest := []) (b := ad 0) ⟨hx, hb, hml, hown, htb⟩ (c_M_hasArrived l D ad kd g z v x) (cwV (C := R_M) 1 htb (gV tb_good mw_230 mw_232 mw_0 mw_27 mw_233) rfl rfl rfl (by decide +kernel) ⟨Nat.le_of_ble_eq_true rfl, Nat.le_of_ble_eq_true rfl⟩) hP hK (va_recv hK hP (ci := 0) (q0 := 0) rfl rfl) rfl hl.1 rfl (lv_room (Nat.le_of_ble_eq_true rfl)) d_M_arrive_9 ⟨Nat.zero_le _, Nat.zero_le _⟩ ?_
    refine lv_if_eq (tgt := 17) hx hb d_M_arrive_12 (by decide) (fun c2 => ?_) (fun c2 => ?_)
    · replace c2 := bI_f c2
      refine lv_aload_n hx hb d_M_arrive_17 rfl (lv_at hl 0 rfl) ?_
      refine lv_dup hx hb d_M_arrive_18 rfl ?_
      refine va_get (D := D) (ci := 0) (v := .int (v 0)) (C := R_M) (T := F_M) (N := 5) hx hb htb iw_M hown hK hP 0 rfl rfl 3 (by decide) (htb _ mw_164) (fun _ h9 => h9) rfl d_M_arrive_19 ?_
      refine lv_iconst (v := 1) hx hb d_M_arrive_22 (by decide) ?_
      refine lv_iload_n hx hb d_M_arrive_23 rfl (lv_at hl 1 rfl) ?_
      refine lv_ishl hx hb d_M_arrive_24 ?_
      refine lv_ior hx hb d_M_arrive_25 ?_
      refine va_put (D := D) (ci := 0) (v := .int ((v 0) ||| ((1 : Int32) <<< (x &&& 31)))) (ty := .int) (C := R_M) (T := F_M) (N := 5) hx hb htb iw_M t_M t_M_ok n_M hown hK hP hD hS 0 rfl rfl 3 (by decide) (htb _ mw_164) (fun _ h9 => h9) rfl (by decide +kernel) rfl rfl (Nat.le_of_ble_eq_true rfl) d_M_arrive_26 (fun H locs hP hD hS => ?_)
      have hP : va_P D classes (wA ad kd g z (upd v 0 ((v 0) ||| ((1 : Int32) <<< (x &&& 31))))) H := hP
      have hD : va_D A (wA ad kd g z (upd v 0 ((v 0) ||| ((1 : Int32) <<< (x &&& 31))))) := hD
      refine lv_iconst (v := 1) hx hb d_M_arrive_29 (by decide) ?_
      exact hret _ _ _ _ _ (by simp [arrR, bI, c1, c2]) (by rw [show arvV v x = (upd v 0 ((v 0) ||| ((1 : Int32) <<< (x &&& 31)))) by simp [arvV, arrR, c1, c2]]; exact hP) hS d_M_arrive_30
    · replace c2 := bI_t c2
      refine lv_iconst (v := 0) hx hb d_M_arrive_15 (by decide) ?_
      exact hret _ _ _ _ _ (by simp [arrR, bI, c1, c2]) (by rw [show arvV v x = v by simp [arvV, arrR, c1, c2]]; exact hP) hS d_M_arrive_16
set_option maxHeartbeats 4000000 in
set_option maxRecDepth 100000 in
theorem c_M_leg (l : Launch) (D : va_G) (ad : Nat → Nat) (kd : Nat → ClassId) (g : Nat → Nat → Int32) (z : Nat → Int64) (v : Nat → Int32) (nx : Nat) (hnx : v 4 = nI nx) (hx6 : nx ≤ 60) (x y : Int32) : WRi l y_M_leg (.code y_M_leg b_M_leg 3 (some .boolean) :: TB) ({ frames := 2, cells := 0, slots := 0, locals := 44 } : Room) [.ref (ad 0), .int x, .int y] D classes (wA ad kd g z v) (wA ad kd (legG g nx x y) z v) (tA kd) (bI (legR g nx x y)) := by
  refine wr_of (by decide +kernel) (bI_nar _) (Nat.le_of_ble_eq_true rfl) ?_
  intro p e s m args below meth c Q ls A hx hb hml htb hown hP hK hD hS hA hl hret
  have hl : lv_has ls 3 [(0, .ref (ad 0)), (1, .int x), (2, .int y)] := hl
  refine lv_aload_n hx hb d_M_leg_0 rfl (lv_at hl 0 rfl) ?_
  refine va_get (D := D) (ci := 0) (v := .ref (ad 15)) (C := R_M) (T := F_M) (N := 5) hx hb htb iw_M hown hK hP 0 rfl rfl 2 (by decide) (htb _ mw_163) (fun _ h9 => h9) rfl d_M_leg_1 ?_
  refine lv_iload_n hx hb d_M_leg_4 rfl (lv_at hl 1 rfl) ?_
  refine rdV (As := [.int x]) (rest := []) (b := ad 15) ⟨hx, hb, hml, hown, htb⟩ (c_X_has l D ad kd g z v nx hnx hx6 x) (cwV (C := R_X) 1 htb (gV tb_good mw_181 mw_182 mw_183 mw_30 mw_184) rfl rfl rfl (by decide +kernel) ⟨Nat.le_of_ble_eq_true rfl, Nat.le_of_ble_eq_true rfl⟩) hP hK (va_recv hK hP (ci := 3) (q0 := 15) rfl rfl) rfl hl.1 rfl (lv_room (Nat.le_of_ble_eq_true rfl)) d_M_leg_5 ⟨Nat.zero_le _, Nat.zero_le _⟩ ?_
  refine lv_if_eq (tgt := 43) hx hb d_M_leg_8 (by decide) (fun c1 => ?_) (fun c1 => ?_)
  · replace c1 := bI_f c1
    refine lv_iconst (v := 0) hx hb d_M_leg_43 (by decide) ?_
    exact hret _ _ _ _ _ (by simp [legR, bI, c1]) (by rw [show legG g nx x y = g by simp [legG, legR, c1]]; exact hP) hS d_M_leg_44
  · replace c1 := bI_t c1
    obtain ⟨k, hk, rfl⟩ := inN_ix c1 (by omega)
    have ek : ix (nI k) = k := ix_nI (by omega)
    have mk : ¬ nI k = -1 := nI_nm1 (by omega)
    refine lv_aload_n hx hb d_M_leg_11 rfl (lv_at hl 0 rfl) ?_
    refine va_get (D := D) (ci := 0) (v := .ref (ad 15)) (C := R_M) (T := F_M) (N := 5) hx hb htb iw_M hown hK hP 0 rfl rfl 2 (by decide) (htb _ mw_163) (fun _ h9 => h9) rfl d_M_leg_12 ?_
    refine lv_iload_n hx hb d_M_leg_15 rfl (lv_at hl 2 rfl) ?_
    refine rdV (As := [.int y]) (rest := []) (b := ad 15) ⟨hx, hb, hml, hown, htb⟩ (c_X_has l D ad kd g z v nx hnx hx6 y) (cwV (C := R_X) 1 htb (gV tb_good mw_181 mw_182 mw_183 mw_30 mw_184) rfl rfl rfl (by decide +kernel) ⟨Nat.le_of_ble_eq_true rfl, Nat.le_of_ble_eq_true rfl⟩) hP hK (va_recv hK hP (ci := 3) (q0 := 15) rfl rfl) rfl hl.1 rfl (lv_room (Nat.le_of_ble_eq_true rfl)) d_M_leg_16 ⟨Nat.zero_le _, Nat.zero_le _⟩ ?_
    refine lv_if_eq (tgt := 43) hx hb d_M_leg_19 (by decide) (fun c2 => ?_) (fun c2 => ?_)
    · replace c2 := bI_f c2
      refine lv_iconst (v := 0) hx hb d_M_leg_43 (by decide) ?_
      exact hret _ _ _ _ _ (by simp [legR, bI, c1, ek, mk, c2]) (by rw [show legG g nx (nI k) y = g by simp [legG, legR, c1, ek, mk, c2]]; exact hP) hS d_M_leg_44
    · replace c2 := bI_t c2
      obtain ⟨j, hj, rfl⟩ := inN_ix c2 (by omega)
      have ej : ix (nI j) = j := ix_nI (by omega)
      have mj : ¬ nI j = -1 := nI_nm1 (by omega)
      refine lv_aload_n hx hb d_M_leg_22 rfl (lv_at hl 0 rfl) ?_
      refine va_get (D := D) (ci := 0) (v := .ref (ad 15)) (C := R_M) (T := F_M) (N := 5) hx hb htb iw_M hown hK hP 0 rfl rfl 2 (by decide) (htb _ mw_163) (fun _ h9 => h9) rfl d_M_leg_23 ?_
      refine va_get (D := D) (ci := 3) (v := .ref (ad 16)) (C := R_X) (T := F_X) (N := 9) hx hb htb iw_X hown hK hP 15 rfl rfl 1 (by decide) (htb _ mw_127) (fun _ h9 => h9) rfl d_M_leg_26 ?_
      refine lv_iload_n hx hb d_M_leg_29 rfl (lv_at hl 1 rfl) ?_
      refine q_iald hx hb hK hP 16 12 rfl rfl k (by omega) (by decide) d_M_leg_30 ?_
      refine lv_aload_n hx hb d_M_leg_31 rfl (lv_at hl 0 rfl) ?_
      refine va_get (D := D) (ci := 0) (v := .ref (ad 15)) (C := R_M) (T := F_M) (N := 5) hx hb htb iw_M hown hK hP 0 rfl rfl 2 (by decide) (htb _ mw_163) (fun _ h9 => h9) rfl d_M_leg_32 ?_
      refine va_get (D := D) (ci := 3) (v := .ref (ad 16)) (C := R_X) (T := F_X) (N := 9) hx hb htb iw_X hown hK hP 15 rfl rfl 1 (by decide) (htb _ mw_127) (fun _ h9 => h9) rfl d_M_leg_35 ?_
      refine lv_iload_n hx hb d_M_leg_38 rfl (lv_at hl 2 rfl) ?_
      refine q_iald hx hb hK hP 16 12 rfl rfl j (by omega) (by decide) d_M_leg_39 ?_
      refine lv_icmp_ne (tgt := 45) hx hb d_M_leg_40 (by decide) (fun c3 => ?_) (fun c3 => ?_)
      · refine lv_aload_n hx hb d_M_leg_45 rfl (lv_at hl 0 rfl) ?_
        refine va_get (D := D) (ci := 0) (v := .ref (ad 15)) (C := R_M) (T := F_M) (N := 5) hx hb htb iw_M hown hK hP 0 rfl rfl 2 (by decide) (htb _ mw_163) (fun _ h9 => h9) rfl d_M_leg_46 ?_
        refine va_get (D := D) (ci := 3) (v := .ref (ad 22)) (C := R_X) (T := F_X) (N := 9) hx hb htb iw_X hown hK hP 15 rfl rfl 7 (by decide) (htb _ mw_138) (fun _ h9 => h9) rfl d_M_leg_49 ?_
        refine lv_iload_n hx hb d_M_leg_52 rfl (lv_at hl 1 rfl) ?_
        refine q_iald hx hb hK hP 22 18 rfl rfl k (by omega) (by decide) d_M_leg_53 ?_
        refine lv_iconst (v := (-1)) hx hb d_M_leg_54 (by decide) ?_
        refine lv_icmp_ne (tgt := 83) hx hb d_M_leg_55 (by decide) (fun c4 => ?_) (fun c4 => ?_)
        · refine lv_iconst (v := 0) hx hb d_M_leg_83 (by decide) ?_
          exact hret _ _ _ _ _ (by simp [legR, bI, c1, ek, mk, c2, ej, mj, c3, c4]) (by rw [show legG g nx (nI k) (nI j) = g by simp [legG, legR, c1, ek, mk, c2, ej, mj, c3, c4]]; exact hP) hS d_M_leg_84
        · refine lv_aload_n hx hb d_M_leg_58 rfl (lv_at hl 0 rfl) ?_
          refine va_get (D := D) (ci := 0) (v := .ref (ad 15)) (C := R_M) (T := F_M) (N := 5) hx hb htb iw_M hown hK hP 0 rfl rfl 2 (by decide) (htb _ mw_163) (fun _ h9 => h9) rfl d_M_leg_59 ?_
          refine va_get (D := D) (ci := 3) (v := .ref (ad 23)) (C := R_X) (T := F_X) (N := 9) hx hb htb iw_X hown hK hP 15 rfl rfl 8 (by decide) (htb _ mw_140) (fun _ h9 => h9) rfl d_M_leg_62 ?_
          refine lv_iload_n hx hb d_M_leg_65 rfl (lv_at hl 2 rfl) ?_
          refine q_iald hx hb hK hP 23 19 rfl rfl j (by omega) (by decide) d_M_leg_66 ?_
          refine lv_iconst (v := (-1)) hx hb d_M_leg_67 (by decide) ?_
          refine lv_icmp_ne (tgt := 83) hx hb d_M_leg_68 (by decide) (fun c5 => ?_) (fun c5 => ?_)
          · refine lv_iconst (v := 0) hx hb d_M_leg_83 (by decide) ?_
            exact hret _ _ _ _ _ (by simp [legR, bI, c1, ek, mk, c2, ej, mj, c3, c4, c5]) (by rw [show legG g nx (nI k) (nI j) = g by simp [legG, legR, c1, ek, mk, c2, ej, mj, c3, c4, c5]]; exact hP) hS d_M_leg_84
          · refine lv_aload_n hx hb d_M_leg_71 rfl (lv_at hl 0 rfl) ?_
            refine va_get (D := D) (ci := 0) (v := .ref (ad 15)) (C := R_M) (T := F_M) (N := 5) hx hb htb iw_M hown hK hP 0 rfl rfl 2 (by decide) (htb _ mw_163) (fun _ h9 => h9) rfl d_M_leg_72 ?_
            refine lv_iload_n hx hb d_M_leg_75 rfl (lv_at hl 1 rfl) ?_
            refine rdV (As := [.int (nI k)]) (rest := []) (b := ad 15) ⟨hx, hb, hml, hown, htb⟩ (c_X_first l D ad kd g z v nx hnx hx6 k (by omega)) (cwV (C := R_X) 1 htb (gV tb_good mw_238 mw_239 mw_240 mw_30 mw_241) rfl rfl rfl (by decide +kernel) ⟨Nat.le_of_ble_eq_true rfl, Nat.le_of_ble_eq_true rfl⟩) hP hK (va_recv hK hP (ci := 3) (q0 := 15) rfl rfl) rfl hl.1 rfl (lv_room (Nat.le_of_ble_eq_true rfl)) d_M_leg_76 ⟨Nat.zero_le _, Nat.zero_le _⟩ ?_
            have hfl := firL_lt (g := g) hx6 60 k (by omega)
            refine lv_iload_n hx hb d_M_leg_79 rfl (lv_at hl 2 rfl) ?_
            refine q_icmp_ne (a := (firL g nx 60 k)) (b := j) (tgt := 85) hx hb (by omega) (by omega) d_M_leg_80 (by decide) (fun c6 => ?_) (fun c6 => ?_)
            · refine lv_aload_n hx hb d_M_leg_85 rfl (lv_at hl 0 rfl) ?_
              refine va_get (D := D) (ci := 0) (v := .ref (ad 15)) (C := R_M) (T := F_M) (N := 5) hx hb htb iw_M hown hK hP 0 rfl rfl 2 (by decide) (htb _ mw_163) (fun _ h9 => h9) rfl d_M_leg_86 ?_
              refine va_get (D := D) (ci := 3) (v := .ref (ad 22)) (C := R_X) (T := F_X) (N := 9) hx hb htb iw_X hown hK hP 15 rfl rfl 7 (by decide) (htb _ mw_138) (fun _ h9 => h9) rfl d_M_leg_89 ?_
              refine lv_iload_n hx hb d_M_leg_92 rfl (lv_at hl 1 rfl) ?_
              refine lv_iload_n hx hb d_M_leg_93 rfl (lv_at hl 2 rfl) ?_
              refine q_iast hx hb hK hP hD hS 22 18 rfl rfl k (x := (nI j)) (by omega) (by decide) d_M_leg_94 (fun H locs hP hD hS => ?_)
              have hP : va_P D classes (wA ad kd (up g 22 k (nI j)) z v) H := hP
              have hD : va_D A (wA ad kd (up g 22 k (nI j)) z v) := hD
              refine lv_aload_n hx hb d_M_leg_95 rfl (lv_at hl 0 rfl) ?_
              refine va_get (D := D) (ci := 0) (v := .ref (ad 15)) (C := R_M) (T := F_M) (N := 5) hx hb htb iw_M hown hK hP 0 rfl rfl 2 (by decide) (htb _ mw_163) (fun _ h9 => h9) rfl d_M_leg_96 ?_
              refine va_get (D := D) (ci := 3) (v := .ref (ad 23)) (C := R_X) (T := F_X) (N := 9) hx hb htb iw_X hown hK hP 15 rfl rfl 8 (by decide) (htb _ mw_140) (fun _ h9 => h9) rfl d_M_leg_99 ?_
              refine lv_iload_n hx hb d_M_leg_102 rfl (lv_at hl 2 rfl) ?_
              refine lv_iload_n hx hb d_M_leg_103 rfl (lv_at hl 1 rfl) ?_
              refine q_iast hx hb hK hP hD hS 23 19 rfl rfl j (x := (nI k)) (by omega) (by decide) d_M_leg_104 (fun H locs hP hD hS => ?_)
              have hP : va_P D classes (wA ad kd (up (up g 22 k (nI j)) 23 j (nI k)) z v) H := hP
              have hD : va_D A (wA ad kd (up (up g 22 k (nI j)) 23 j (nI k)) z v) := hD
              refine lv_iconst (v := 1) hx hb d_M_leg_105 (by decide) ?_
              exact hret _ _ _ _ _ (by simp [legR, bI, c1, ek, mk, c2, ej, mj, c3, c4, c5, c6]) (by rw [show legG g nx (nI k) (nI j) = (up (up g 22 k (nI j)) 23 j (nI k)) by simp [legG, legR, c1, ek, mk, c2, ej, mj, c3, c4, c5, c6]]; exact hP) hS d_M_leg_106
            · refine lv_iconst (v := 0) hx hb d_M_leg_83 (by decide) ?_
              exact hret _ _ _ _ _ (by simp [legR, bI, c1, ek, mk, c2, ej, mj, c3, c4, c5, c6]) (by rw [show legG g nx (nI k) (nI j) = g by simp [legG, legR, c1, ek, mk, c2, ej, mj, c3, c4, c5, c6]]; exact hP) hS d_M_leg_84
      · refine lv_iconst (v := 0) hx hb d_M_leg_43 (by decide) ?_
        exact hret _ _ _ _ _ (by simp [legR, bI, c1, ek, mk, c2, ej, mj, c3]) (by rw [show legG g nx (nI k) (nI j) = g by simp [legG, legR, c1, ek, mk, c2, ej, mj, c3]]; exact hP) hS d_M_leg_44
set_option maxHeartbeats 4000000 in
set_option maxRecDepth 100000 in
theorem c_M_waits (l : Launch) (D : va_G) (ad : Nat → Nat) (kd : Nat → ClassId) (g : Nat → Nat → Int32) (z : Nat → Int64) (v : Nat → Int32) (nx : Nat) (hnx : v 4 = nI nx) (hx6 : nx ≤ 60) (x : Int32) : RD l y_M_waits (.code y_M_waits b_M_waits 4 (some .int) :: TB) ({ frames := 2, cells := 0, slots := 0, locals := 42 } : Room) [.ref (ad 0), .int x] D classes (wA ad kd g z v) (tA kd) (pickN (fun k => waiX g z k) x nx) := by
  refine rd_of (by decide +kernel) (rfl) (Nat.le_of_ble_eq_true rfl) ?_
  intro p e s m args below meth c Q ls hx hb hml htb hown hP hK hl hret
  have hl : lv_has ls 4 [(0, .ref (ad 0)), (1, .int x)] := hl
  refine lv_iconst (v := 0) hx hb d_M_waits_0 (by decide) ?_
  refine lv_istore_n (lv' := [(2, .int 0), (0, .ref (ad 0)), (1, .int x)]) hx hb d_M_waits_1 rfl hl (by decide) rfl (fun ls hl => ?_)
  refine lv_iconst (v := 0) hx hb d_M_waits_2 (by decide) ?_
  refine lv_istore_n (lv' := [(3, .int 0), (2, .int 0), (0, .ref (ad 0)), (1, .int x)]) hx hb d_M_waits_3 rfl hl (by decide) rfl (fun ls hl => ?_)
  have lp4 : ∀ (n : Nat) (i : Nat) (f : Nat), i ≤ nx → nx + 1 ≤ i + n → f = cntN (fun k => waiX g z k) i → pickN (fun k => waiX g z k) x i = -1 → ∀ (ls : Array Slot), lv_has ls 4 [(0, .ref (ad 0)), (1, .int x), (2, .int (nI f)), (3, .int (nI i))] → W p l e ({ frames := 2, cells := 0, slots := 0, locals := 42 } : Room) s m args below meth c s.heap [] 0 0 Q (F0 m 4 ls []) := by
    intro n
    induction n with
    | zero => intro i f hi hm hf hp ls hl; exact absurd hm (by omega)
    | succ n ih =>
      intro i f hi hm hf hp ls hl
      refine lv_iload_n hx hb d_M_waits_4 rfl (lv_at hl 3 rfl) ?_
      refine lv_aload_n hx hb d_M_waits_5 rfl (lv_at hl 0 rfl) ?_
      refine va_get (D := D) (ci := 0) (v := .ref (ad 15)) (C := R_M) (T := F_M) (N := 5) hx hb htb iw_M hown hK hP 0 rfl rfl 2 (by decide) (htb _ mw_163) (fun _ h9 => h9) rfl d_M_waits_6 ?_
      refine va_get (D := D) (ci := 3) (v := .int (nI nx)) (C := R_X) (T := F_X) (N := 9) hx hb htb iw_X hown hK hP 15 rfl rfl 0 (by decide) (htb _ mw_125) (fun _ h9 => h9) (congrArg (fun x => some (Value.int x)) hnx) d_M_waits_9 ?_
      refine q_icmp_ge (a := i) (b := nx) (tgt := 42) hx hb (by omega) (by omega) d_M_waits_12 (by decide) (fun c1 => ?_) (fun c1 => ?_)
      · refine lv_iconst (v := (-1)) hx hb d_M_waits_42 (by decide) ?_
        exact hret _ _ _ (by rw [show nx = i by omega, hp]) d_M_waits_43
      · refine lv_aload_n hx hb d_M_waits_15 rfl (lv_at hl 0 rfl) ?_
        refine va_get (D := D) (ci := 0) (v := .ref (ad 15)) (C := R_M) (T := F_M) (N := 5) hx hb htb iw_M hown hK hP 0 rfl rfl 2 (by decide) (htb _ mw_163) (fun _ h9 => h9) rfl d_M_waits_16 ?_
        refine lv_iload_n hx hb d_M_waits_19 rfl (lv_at hl 3 rfl) ?_
        refine rdV (As := [.int (nI i)]) (rest := []) (b := ad 15) ⟨hx, hb, hml, hown, htb⟩ (c_X_isWaiting l D ad kd g z v i (by omega)) (cwV (C := R_X) 1 htb (gV tb_good mw_247 mw_248 mw_249 mw_30 mw_250) rfl rfl rfl (by decide +kernel) ⟨Nat.le_of_ble_eq_true rfl, Nat.le_of_ble_eq_true rfl⟩) hP hK (va_recv hK hP (ci := 3) (q0 := 15) rfl rfl) rfl hl.1 rfl (lv_room (Nat.le_of_ble_eq_true rfl)) d_M_waits_20 ⟨Nat.zero_le _, Nat.zero_le _⟩ ?_
        refine lv_if_eq (tgt := 36) hx hb d_M_waits_23 (by decide) (fun c2 => ?_) (fun c2 => ?_)
        · replace c2 := bI_f c2
          refine lv_iinc (v := (nI (i + 1))) (lv' := [(3, .int (nI (i + 1))), (0, .ref (ad 0)), (1, .int x), (2, .int (nI f))]) hx hb d_M_waits_36 hl (k := 3) rfl (q_inc _) (by decide) rfl (fun ls hl => ?_)
          refine lv_goto (tgt := 4) hx hb d_M_waits_39 (by decide) ?_
          exact ih (i + 1) f (by omega) (by omega) (by rw [cntN_f (by simp [c1, c2]), hf]) (pickN_miss hp (by simp [c1, c2])) _ (lv_sub hl [1, 2, 3, 0] rfl)
        · replace c2 := bI_t c2
          refine lv_iload_n hx hb d_M_waits_26 rfl (lv_at hl 2 rfl) ?_
          refine lv_iload_n hx hb d_M_waits_27 rfl (lv_at hl 1 rfl) ?_
          refine lv_icmp_ne (tgt := 33) hx hb d_M_waits_28 (by decide) (fun c3 => ?_) (fun c3 => ?_)
          · refine lv_iinc (v := (nI (f + 1))) (lv' := [(2, .int (nI (f + 1))), (0, .ref (ad 0)), (1, .int x), (3, .int (nI i))]) hx hb d_M_waits_33 hl (k := 2) rfl (q_inc _) (by decide) rfl (fun ls hl => ?_)
            refine lv_iinc (v := (nI (i + 1))) (lv' := [(3, .int (nI (i + 1))), (2, .int (nI (f + 1))), (0, .ref (ad 0)), (1, .int x)]) hx hb d_M_waits_36 hl (k := 3) rfl (q_inc _) (by decide) rfl (fun ls hl => ?_)
            refine lv_goto (tgt := 4) hx hb d_M_waits_39 (by decide) ?_
            exact ih (i + 1) (f + 1) (by omega) (by omega) (by rw [cntN_t (by simp [c1, c2, c3]), hf]) (pickN_pass hp (by rw [← hf]; assumption)) _ (lv_sub hl [2, 3, 1, 0] rfl)
          · refine lv_iload_n hx hb d_M_waits_31 rfl (lv_at hl 3 rfl) ?_
            exact hret _ _ _ (by rw [pickN_hit (i := i) (by omega) hp (by simp [c1, c2, c3]) (by rw [← hf]; assumption) (by omega)]) d_M_waits_32
  exact lp4 (nx + 1) 0 0 (Nat.zero_le _) (by omega) rfl rfl _ (lv_sub hl [2, 3, 1, 0] rfl)
set_option maxHeartbeats 4000000 in
set_option maxRecDepth 100000 in
theorem c_M_count (l : Launch) (D : va_G) (ad : Nat → Nat) (kd : Nat → ClassId) (g : Nat → Nat → Int32) (z : Nat → Int64) (v : Nat → Int32) (nb : Nat) (hnb : v 2 = nI nb) (hb6 : nb ≤ 60) (nx : Nat) (hnx : v 4 = nI nx) (hx6 : nx ≤ 60) (nl : Nat) (hnl : v 3 = nI nl) (hl2 : nl ≤ 200) (k : Nat) (hk : k < 9) : RD l y_M_count (.code y_M_count b_M_count 2 (some .int) :: TB) ({ frames := 3, cells := 0, slots := 0, locals := 68 } : Room) [.ref (ad 0), .int (nI k)] D classes (wA ad kd g z v) (tA kd) (cntS g z v nb nl nx k) := by
  refine rd_of (by decide +kernel) (rfl) (Nat.le_of_ble_eq_true rfl) ?_
  intro p e s m args below meth c Q ls hx hb hml htb hown hP hK hl hret
  have hl : lv_has ls 2 [(0, .ref (ad 0)), (1, .int (nI k))] := hl
  refine lv_iload_n hx hb d_M_count_0 rfl (lv_at hl 1 rfl) ?_
  rcases (show k = 0 ∨ k = 1 ∨ k = 2 ∨ k = 3 ∨ k = 4 ∨ k = 5 ∨ k = 6 ∨ k = 7 ∨ k = 8 by omega) with rfl | rfl | rfl | rfl | rfl | rfl | rfl | rfl | rfl
  · refine lv_tableIn (tgt := 52) hx hb d_M_count_1 (by decide) (by decide) rfl (by decide) ?_
    refine lv_aload_n hx hb d_M_count_52 rfl (lv_at hl 0 rfl) ?_
    refine va_get (D := D) (ci := 0) (v := .ref (ad 1)) (C := R_M) (T := F_M) (N := 5) hx hb htb iw_M hown hK hP 0 rfl rfl 0 (by decide) (htb _ mw_161) (fun _ h9 => h9) rfl d_M_count_53 ?_
    refine va_get (D := D) (ci := 1) (v := .int (nI nb)) (C := R_B) (T := F_B) (N := 8) hx hb htb iw_B hown hK hP 1 rfl rfl 0 (by decide) (htb _ mw_56) (fun _ h9 => h9) (congrArg (fun x => some (Value.int x)) hnb) d_M_count_56 ?_
    exact hret _ _ _ rfl d_M_count_59
  · refine lv_tableIn (tgt := 60) hx hb d_M_count_1 (by decide) (by decide) rfl (by decide) ?_
    refine lv_aload_n hx hb d_M_count_60 rfl (lv_at hl 0 rfl) ?_
    refine va_get (D := D) (ci := 0) (v := .ref (ad 15)) (C := R_M) (T := F_M) (N := 5) hx hb htb iw_M hown hK hP 0 rfl rfl 2 (by decide) (htb _ mw_163) (fun _ h9 => h9) rfl d_M_count_61 ?_
    refine va_get (D := D) (ci := 3) (v := .int (nI nx)) (C := R_X) (T := F_X) (N := 9) hx hb htb iw_X hown hK hP 15 rfl rfl 0 (by decide) (htb _ mw_125) (fun _ h9 => h9) (congrArg (fun x => some (Value.int x)) hnx) d_M_count_64 ?_
    exact hret _ _ _ rfl d_M_count_67
  · refine lv_tableIn (tgt := 68) hx hb d_M_count_1 (by decide) (by decide) rfl (by decide) ?_
    refine lv_aload_n hx hb d_M_count_68 rfl (lv_at hl 0 rfl) ?_
    refine va_get (D := D) (ci := 0) (v := .ref (ad 9)) (C := R_M) (T := F_M) (N := 5) hx hb htb iw_M hown hK hP 0 rfl rfl 1 (by decide) (htb _ mw_162) (fun _ h9 => h9) rfl d_M_count_69 ?_
    refine va_get (D := D) (ci := 2) (v := .int (nI nl)) (C := R_N) (T := F_N) (N := 6) hx hb htb iw_N hown hK hP 9 rfl rfl 0 (by decide) (htb _ mw_96) (fun _ h9 => h9) (congrArg (fun x => some (Value.int x)) hnl) d_M_count_72 ?_
    exact hret _ _ _ rfl d_M_count_75
  · refine lv_tableIn (tgt := 76) hx hb d_M_count_1 (by decide) (by decide) rfl (by decide) ?_
    refine lv_aload_n hx hb d_M_count_76 rfl (lv_at hl 0 rfl) ?_
    refine va_get (D := D) (ci := 0) (v := .int (v 1)) (C := R_M) (T := F_M) (N := 5) hx hb htb iw_M hown hK hP 0 rfl rfl 4 (by decide) (htb _ mw_165) (fun _ h9 => h9) rfl d_M_count_77 ?_
    exact hret _ _ _ rfl d_M_count_80
  · refine lv_tableIn (tgt := 81) hx hb d_M_count_1 (by decide) (by decide) rfl (by decide) ?_
    refine lv_aload_n hx hb d_M_count_81 rfl (lv_at hl 0 rfl) ?_
    refine va_get (D := D) (ci := 0) (v := .ref (ad 15)) (C := R_M) (T := F_M) (N := 5) hx hb htb iw_M hown hK hP 0 rfl rfl 2 (by decide) (htb _ mw_163) (fun _ h9 => h9) rfl d_M_count_82 ?_
    refine rdV (As := []) (rest := []) (b := ad 15) ⟨hx, hb, hml, hown, htb⟩ (c_X_orderedOnes l D ad kd g z v nx hnx hx6) (cwV (C := R_X) 0 htb (gV tb_good mw_256 mw_257 mw_258 mw_30 mw_259) rfl rfl rfl (by decide +kernel) ⟨Nat.le_of_ble_eq_true rfl, Nat.le_of_ble_eq_true rfl⟩) hP hK (va_recv hK hP (ci := 3) (q0 := 15) rfl rfl) rfl hl.1 rfl (lv_room (Nat.le_of_ble_eq_true rfl)) d_M_count_85 ⟨Nat.zero_le _, Nat.zero_le _⟩ ?_
    exact hret _ _ _ rfl d_M_count_88
  · refine lv_tableIn (tgt := 89) hx hb d_M_count_1 (by decide) (by decide) rfl (by decide) ?_
    refine lv_aload_n hx hb d_M_count_89 rfl (lv_at hl 0 rfl) ?_
    refine va_get (D := D) (ci := 0) (v := .ref (ad 15)) (C := R_M) (T := F_M) (N := 5) hx hb htb iw_M hown hK hP 0 rfl rfl 2 (by decide) (htb _ mw_163) (fun _ h9 => h9) rfl d_M_count_90 ?_
    refine rdV (As := []) (rest := []) (b := ad 15) ⟨hx, hb, hml, hown, htb⟩ (c_X_landedOnes l D ad kd g z v nx hnx hx6) (cwV (C := R_X) 0 htb (gV tb_good mw_261 mw_262 mw_263 mw_30 mw_264) rfl rfl rfl (by decide +kernel) ⟨Nat.le_of_ble_eq_true rfl, Nat.le_of_ble_eq_true rfl⟩) hP hK (va_recv hK hP (ci := 3) (q0 := 15) rfl rfl) rfl hl.1 rfl (lv_room (Nat.le_of_ble_eq_true rfl)) d_M_count_93 ⟨Nat.zero_le _, Nat.zero_le _⟩ ?_
    exact hret _ _ _ rfl d_M_count_96
  · refine lv_tableIn (tgt := 97) hx hb d_M_count_1 (by decide) (by decide) rfl (by decide) ?_
    refine lv_aload_n hx hb d_M_count_97 rfl (lv_at hl 0 rfl) ?_
    refine va_get (D := D) (ci := 0) (v := .ref (ad 15)) (C := R_M) (T := F_M) (N := 5) hx hb htb iw_M hown hK hP 0 rfl rfl 2 (by decide) (htb _ mw_163) (fun _ h9 => h9) rfl d_M_count_98 ?_
    refine rdV (As := []) (rest := []) (b := ad 15) ⟨hx, hb, hml, hown, htb⟩ (c_X_waitingOnes l D ad kd g z v nx hnx hx6) (cwV (C := R_X) 0 htb (gV tb_good mw_265 mw_266 mw_267 mw_30 mw_268) rfl rfl rfl (by decide +kernel) ⟨Nat.le_of_ble_eq_true rfl, Nat.le_of_ble_eq_true rfl⟩) hP hK (va_recv hK hP (ci := 3) (q0 := 15) rfl rfl) rfl hl.1 rfl (lv_room (Nat.le_of_ble_eq_true rfl)) d_M_count_101 ⟨Nat.zero_le _, Nat.zero_le _⟩ ?_
    exact hret _ _ _ rfl d_M_count_104
  · refine lv_tableIn (tgt := 105) hx hb d_M_count_1 (by decide) (by decide) rfl (by decide) ?_
    refine lv_aload_n hx hb d_M_count_105 rfl (lv_at hl 0 rfl) ?_
    refine va_get (D := D) (ci := 0) (v := .int (v 0)) (C := R_M) (T := F_M) (N := 5) hx hb htb iw_M hown hK hP 0 rfl rfl 3 (by decide) (htb _ mw_164) (fun _ h9 => h9) rfl d_M_count_106 ?_
    exact hret _ _ _ rfl d_M_count_109
  · refine lv_tableIn (tgt := 110) hx hb d_M_count_1 (by decide) (by decide) rfl (by decide) ?_
    refine lv_aload_n hx hb d_M_count_110 rfl (lv_at hl 0 rfl) ?_
    refine rdV (As := []) (rest := []) (b := ad 0) ⟨hx, hb, hml, hown, htb⟩ (c_M_mastersThatDiffer l D ad kd g z v nb hnb hb6) (cwV (C := R_M) 0 htb (gV tb_good mw_270 mw_272 mw_1 mw_27 mw_273) rfl rfl rfl (by decide +kernel) ⟨Nat.le_of_ble_eq_true rfl, Nat.le_of_ble_eq_true rfl⟩) hP hK (va_recv hK hP (ci := 0) (q0 := 0) rfl rfl) rfl hl.1 rfl (lv_room (Nat.le_of_ble_eq_true rfl)) d_M_count_111 ⟨Nat.zero_le _, Nat.zero_le _⟩ ?_
    exact hret _ _ _ rfl d_M_count_114
set_option maxHeartbeats 4000000 in
set_option maxRecDepth 100000 in
theorem c_M_countN (l : Launch) (D : va_G) (ad : Nat → Nat) (kd : Nat → ClassId) (g : Nat → Nat → Int32) (z : Nat → Int64) (v : Nat → Int32) (nb : Nat) (hnb : v 2 = nI nb) (hb6 : nb ≤ 60) (nx : Nat) (hnx : v 4 = nI nx) (hx6 : nx ≤ 60) (nl : Nat) (hnl : v 3 = nI nl) (hl2 : nl ≤ 200) (x : Int32) (ho : x.toInt < 0 ∨ 8 < x.toInt) : RD l y_M_count (.code y_M_count b_M_count 2 (some .int) :: TB) ({ frames := 3, cells := 0, slots := 0, locals := 68 } : Room) [.ref (ad 0), .int x] D classes (wA ad kd g z v) (tA kd) (-1) := by
  refine rd_of (by decide +kernel) (rfl) (Nat.le_of_ble_eq_true rfl) ?_
  intro p e s m args below meth c Q ls hx hb hml htb hown hP hK hl hret
  have hl : lv_has ls 2 [(0, .ref (ad 0)), (1, .int x)] := hl
  refine lv_iload_n hx hb d_M_count_0 rfl (lv_at hl 1 rfl) ?_
  refine lv_tableOut (tgt := 115) hx hb d_M_count_1 ho (by decide) ?_
  refine lv_iconst (v := (-1)) hx hb d_M_count_115 (by decide) ?_
  exact hret _ _ _ rfl d_M_count_116
set_option maxHeartbeats 4000000 in
set_option maxRecDepth 100000 in
theorem c_M_bill (l : Launch) (D : va_G) (ad : Nat → Nat) (kd : Nat → ClassId) (g : Nat → Nat → Int32) (z : Nat → Int64) (v : Nat → Int32) (nb : Nat) (hnb : v 2 = nI nb) (hb6 : nb ≤ 60) (hlt : nb < 60) (x y o : Int32) (hc : isCallS x = true) (hn : isNumS y = true) : WRi l y_M_bill (.code y_M_bill b_M_bill 4 (some .int) :: TB) ({ frames := 2, cells := 0, slots := 0, locals := 46 } : Room) [.ref (ad 0), .int x, .int y, .int o] D classes (wA ad kd g z v) (wA ad kd (if bilR g nb x y o = true then addB g nb x y o 0 else g) z (if bilR g nb x y o = true then upd v 2 (nI nb + 1) else v)) (tA kd) (if bilR g nb x y o = true then nI nb else -1) := by
  refine wr_of (by decide +kernel) (rfl) (Nat.le_of_ble_eq_true rfl) ?_
  intro p e s m args below meth c Q ls A hx hb hml htb hown hP hK hD hS hA hl hret
  have hl : lv_has ls 4 [(0, .ref (ad 0)), (1, .int x), (2, .int y), (3, .int o)] := hl
  refine lv_iload_n hx hb d_M_bill_0 rfl (lv_at hl 1 rfl) ?_
  refine rdS (As := [.int x]) (rest := []) ⟨hx, hb, hml, hown, htb⟩ (c_M_isCall l D (wA ad kd g z v) (tA kd) x) (va_cwS 1 htb (gS tb_good mw_227 mw_228 mw_27 mw_229) rfl rfl rfl (by decide +kernel) ⟨Nat.le_of_ble_eq_true rfl, Nat.le_of_ble_eq_true rfl⟩) hP hK rfl hl.1 rfl (lv_room (Nat.le_of_ble_eq_true rfl)) d_M_bill_1 ⟨Nat.zero_le _, Nat.zero_le _⟩ ?_
  refine lv_if_eq (tgt := 14) hx hb d_M_bill_4 (by decide) (fun c1 => ?_) (fun c1 => ?_)
  · replace c1 := bI_f c1
    first | (simp [hc, hn] at c1; done) | (simp at c1; omega) | (exact absurd c1 (by omega))
  · replace c1 := bI_t c1
    refine lv_iload_n hx hb d_M_bill_7 rfl (lv_at hl 2 rfl) ?_
    refine rdS (As := [.int y]) (rest := []) ⟨hx, hb, hml, hown, htb⟩ (c_M_isNumber l D (wA ad kd g z v) (tA kd) y) (va_cwS 1 htb (gS tb_good mw_291 mw_292 mw_27 mw_293) rfl rfl rfl (by decide +kernel) ⟨Nat.le_of_ble_eq_true rfl, Nat.le_of_ble_eq_true rfl⟩) hP hK rfl hl.1 rfl (lv_room (Nat.le_of_ble_eq_true rfl)) d_M_bill_8 ⟨Nat.zero_le _, Nat.zero_le _⟩ ?_
    refine lv_if_ne (tgt := 24) hx hb d_M_bill_11 (by decide) (fun c2 => ?_) (fun c2 => ?_)
    · replace c2 := bI_t c2
      refine lv_aload_n hx hb d_M_bill_24 rfl (lv_at hl 0 rfl) ?_
      refine va_get (D := D) (ci := 0) (v := .ref (ad 1)) (C := R_M) (T := F_M) (N := 5) hx hb htb iw_M hown hK hP 0 rfl rfl 0 (by decide) (htb _ mw_161) (fun _ h9 => h9) rfl d_M_bill_25 ?_
      refine rdV (As := []) (rest := []) (b := ad 1) ⟨hx, hb, hml, hown, htb⟩ (c_B_isFull l D ad kd g z v nb hnb hb6) (cwV (C := R_B) 0 htb (gV tb_good mw_364 mw_365 mw_366 mw_28 mw_367) rfl rfl rfl (by decide +kernel) ⟨Nat.le_of_ble_eq_true rfl, Nat.le_of_ble_eq_true rfl⟩) hP hK (va_recv hK hP (ci := 1) (q0 := 1) rfl rfl) rfl hl.1 rfl (lv_room (Nat.le_of_ble_eq_true rfl)) d_M_bill_28 ⟨Nat.zero_le _, Nat.zero_le _⟩ ?_
      refine lv_if_eq (tgt := 44) hx hb d_M_bill_31 (by decide) (fun c3 => ?_) (fun c3 => ?_)
      · replace c3 := bI_f c3
        refine lv_aload_n hx hb d_M_bill_44 rfl (lv_at hl 0 rfl) ?_
        refine va_get (D := D) (ci := 0) (v := .ref (ad 1)) (C := R_M) (T := F_M) (N := 5) hx hb htb iw_M hown hK hP 0 rfl rfl 0 (by decide) (htb _ mw_161) (fun _ h9 => h9) rfl d_M_bill_45 ?_
        refine lv_iload_n hx hb d_M_bill_48 rfl (lv_at hl 1 rfl) ?_
        refine lv_iload_n hx hb d_M_bill_49 rfl (lv_at hl 3 rfl) ?_
        refine rdV (As := [.int x, .int o]) (rest := []) (b := ad 1) ⟨hx, hb, hml, hown, htb⟩ (c_B_mayStandUnder l D ad kd g z v nb hnb hb6 x o) (cwV (C := R_B) 2 htb (gV tb_good mw_384 mw_385 mw_386 mw_28 mw_387) rfl rfl rfl (by decide +kernel) ⟨Nat.le_of_ble_eq_true rfl, Nat.le_of_ble_eq_true rfl⟩) hP hK (va_recv hK hP (ci := 1) (q0 := 1) rfl rfl) rfl hl.1 rfl (lv_room (Nat.le_of_ble_eq_true rfl)) d_M_bill_50 ⟨Nat.zero_le _, Nat.zero_le _⟩ ?_
        refine lv_if_eq (tgt := 68) hx hb d_M_bill_53 (by decide) (fun c4 => ?_) (fun c4 => ?_)
        · replace c4 := bI_f c4
          refine lv_iconst (v := (-1)) hx hb d_M_bill_68 (by decide) ?_
          exact hret _ _ _ _ _ (by simp [bilR, c1, c2, c3, c4]) (by rw [show bilR g nb x y o = false by simp [bilR, c1, c2, c3, c4]]; exact hP) hS d_M_bill_69
        · replace c4 := bI_t c4
          refine lv_aload_n hx hb d_M_bill_56 rfl (lv_at hl 0 rfl) ?_
          refine va_get (D := D) (ci := 0) (v := .ref (ad 1)) (C := R_M) (T := F_M) (N := 5) hx hb htb iw_M hown hK hP 0 rfl rfl 0 (by decide) (htb _ mw_161) (fun _ h9 => h9) rfl d_M_bill_57 ?_
          refine lv_iload_n hx hb d_M_bill_60 rfl (lv_at hl 1 rfl) ?_
          refine lv_iload_n hx hb d_M_bill_61 rfl (lv_at hl 2 rfl) ?_
          refine rdV (As := [.int x, .int y]) (rest := []) (b := ad 1) ⟨hx, hb, hml, hown, htb⟩ (c_B_isTaken l D ad kd g z v nb hnb hb6 x y) (cwV (C := R_B) 2 htb (gV tb_good mw_393 mw_394 mw_395 mw_28 mw_396) rfl rfl rfl (by decide +kernel) ⟨Nat.le_of_ble_eq_true rfl, Nat.le_of_ble_eq_true rfl⟩) hP hK (va_recv hK hP (ci := 1) (q0 := 1) rfl rfl) rfl hl.1 rfl (lv_room (Nat.le_of_ble_eq_true rfl)) d_M_bill_62 ⟨Nat.zero_le _, Nat.zero_le _⟩ ?_
          refine lv_if_eq (tgt := 70) hx hb d_M_bill_65 (by decide) (fun c5 => ?_) (fun c5 => ?_)
          · replace c5 := bI_f c5
            refine lv_aload_n hx hb d_M_bill_70 rfl (lv_at hl 0 rfl) ?_
            refine va_get (D := D) (ci := 0) (v := .ref (ad 1)) (C := R_M) (T := F_M) (N := 5) hx hb htb iw_M hown hK hP 0 rfl rfl 0 (by decide) (htb _ mw_161) (fun _ h9 => h9) rfl d_M_bill_71 ?_
            refine lv_iload_n hx hb d_M_bill_74 rfl (lv_at hl 1 rfl) ?_
            refine lv_iload_n hx hb d_M_bill_75 rfl (lv_at hl 2 rfl) ?_
            refine lv_iload_n hx hb d_M_bill_76 rfl (lv_at hl 3 rfl) ?_
            refine lv_iconst (v := 0) hx hb d_M_bill_77 (by decide) ?_
            refine wrV (As := [.int x, .int y, .int o, .int 0]) (rest := []) (b := ad 1) ⟨hx, hb, hml, hown, htb⟩ (c_B_add l D ad kd g z v nb hnb hb6 (by omega) x y o 0) (cwV (C := R_B) 4 htb (gV tb_good mw_397 mw_398 mw_399 mw_28 mw_400) rfl rfl rfl (by decide +kernel) ⟨Nat.le_of_ble_eq_true rfl, Nat.le_of_ble_eq_true rfl⟩) hP hK hD hS hA (va_recv hK hP (ci := 1) (q0 := 1) rfl rfl) rfl hl.1 rfl (lv_room (Nat.le_of_ble_eq_true rfl)) d_M_bill_78 ⟨Nat.zero_le _, Nat.zero_le _⟩ (fun H locs hP hS => ?_)
            have hP : va_P D classes (wA ad kd (addB g nb x y o 0) z (upd v 2 (nI nb + 1))) H := hP
            have hD : va_D A (wA ad kd (addB g nb x y o 0) z (upd v 2 (nI nb + 1))) := wA_D hD
            exact hret _ _ _ _ _ (by simp [bilR, c1, c2, c3, c4, c5]) (by rw [show bilR g nb x y o = true by simp [bilR, c1, c2, c3, c4, c5]]; exact hP) hS d_M_bill_81
          · replace c5 := bI_t c5
            refine lv_iconst (v := (-1)) hx hb d_M_bill_68 (by decide) ?_
            exact hret _ _ _ _ _ (by simp [bilR, c1, c2, c3, c4, c5]) (by rw [show bilR g nb x y o = false by simp [bilR, c1, c2, c3, c4, c5]]; exact hP) hS d_M_bill_69
      · replace c3 := bI_t c3
        first | (simp [hc, hn] at c3; done) | (simp [hc, hn] at c2; done) | (simp [hc, hn] at c1; done) | (simp at c3; omega) | (exact absurd c3 (by omega)) | (simp at c2; omega) | (exact absurd c2 (by omega)) | (simp at c1; omega) | (exact absurd c1 (by omega))
    · replace c2 := bI_f c2
      first | (simp [hc, hn] at c2; done) | (simp [hc, hn] at c1; done) | (simp at c2; omega) | (exact absurd c2 (by omega)) | (simp at c1; omega) | (exact absurd c1 (by omega))
set_option maxHeartbeats 4000000 in
set_option maxRecDepth 100000 in
theorem c_M_line (l : Launch) (D : va_G) (ad : Nat → Nat) (kd : Nat → ClassId) (g : Nat → Nat → Int32) (z : Nat → Int64) (v : Nat → Int32) (nb : Nat) (hnb : v 2 = nI nb) (hb6 : nb ≤ 60) (nl : Nat) (hnl : v 3 = nI nl) (hl2 : nl ≤ 200) (hlt : nl < 200) (k : Nat) (hk : k < nb) (x y : Int32) (hw : isWtS x = true) (hy1 : ¬ y < 0) (hy2 : y ≤ 10000) : WRi l y_M_line (.code y_M_line b_M_line 4 (some .int) :: TB) ({ frames := 1, cells := 0, slots := 0, locals := 23 } : Room) [.ref (ad 0), .int (nI k), .int x, .int y] D classes (wA ad kd g z v) (wA ad kd (addN g nl k x y) z (upd v 3 (nI nl + 1))) (tA kd) (g 12 k) := by
  refine wr_of (by decide +kernel) (rfl) (Nat.le_of_ble_eq_true rfl) ?_
  intro p e s m args below meth c Q ls A hx hb hml htb hown hP hK hD hS hA hl hret
  have hl : lv_has ls 4 [(0, .ref (ad 0)), (1, .int (nI k)), (2, .int x), (3, .int y)] := hl
  have hin : inN nb (nI k) = true := inN_nI hk (by omega)
  have hc := hin
  refine lv_aload_n hx hb d_M_line_0 rfl (lv_at hl 0 rfl) ?_
  refine va_get (D := D) (ci := 0) (v := .ref (ad 1)) (C := R_M) (T := F_M) (N := 5) hx hb htb iw_M hown hK hP 0 rfl rfl 0 (by decide) (htb _ mw_161) (fun _ h9 => h9) rfl d_M_line_1 ?_
  refine lv_iload_n hx hb d_M_line_4 rfl (lv_at hl 1 rfl) ?_
  refine rdV (As := [.int (nI k)]) (rest := []) (b := ad 1) ⟨hx, hb, hml, hown, htb⟩ (c_B_has l D ad kd g z v nb hnb hb6 (nI k)) (cwV (C := R_B) 1 htb (gV tb_good mw_185 mw_186 mw_187 mw_28 mw_188) rfl rfl rfl (by decide +kernel) ⟨Nat.le_of_ble_eq_true rfl, Nat.le_of_ble_eq_true rfl⟩) hP hK (va_recv hK hP (ci := 1) (q0 := 1) rfl rfl) rfl hl.1 rfl (lv_room (Nat.le_of_ble_eq_true rfl)) d_M_line_5 ⟨Nat.zero_le _, Nat.zero_le _⟩ ?_
  refine lv_if_eq (tgt := 29) hx hb d_M_line_8 (by decide) (fun c1 => ?_) (fun c1 => ?_)
  · replace c1 := bI_f c1
    first | (simp [hc, hw, hin, hy1, hy2] at c1; done) | (simp at c1; omega) | (exact absurd c1 (by omega))
  · replace c1 := bI_t c1
    refine lv_iload_n hx hb d_M_line_11 rfl (lv_at hl 2 rfl) ?_
    refine rdS (As := [.int x]) (rest := []) ⟨hx, hb, hml, hown, htb⟩ (c_M_isWeight l D (wA ad kd g z v) (tA kd) x) (va_cwS 1 htb (gS tb_good mw_219 mw_220 mw_27 mw_221) rfl rfl rfl (by decide +kernel) ⟨Nat.le_of_ble_eq_true rfl, Nat.le_of_ble_eq_true rfl⟩) hP hK rfl hl.1 rfl (lv_room (Nat.le_of_ble_eq_true rfl)) d_M_line_12 ⟨Nat.zero_le _, Nat.zero_le _⟩ ?_
    refine lv_if_eq (tgt := 29) hx hb d_M_line_15 (by decide) (fun c2 => ?_) (fun c2 => ?_)
    · replace c2 := bI_f c2
      first | (simp [hc, hw, hin, hy1, hy2] at c2; done) | (simp [hc, hw, hin, hy1, hy2] at c1; done) | (simp at c2; omega) | (exact absurd c2 (by omega)) | (simp at c1; omega) | (exact absurd c1 (by omega))
    · replace c2 := bI_t c2
      refine lv_iload_n hx hb d_M_line_18 rfl (lv_at hl 3 rfl) ?_
      refine lv_if_lt (tgt := 29) hx hb d_M_line_19 (by decide) (fun c3 => ?_) (fun c3 => ?_)
      · first | (simp [hc, hw, hin, hy1, hy2] at c3; done) | (simp [hc, hw, hin, hy1, hy2] at c2; done) | (simp [hc, hw, hin, hy1, hy2] at c1; done) | (simp at c3; omega) | (exact absurd c3 (by omega)) | (simp at c2; omega) | (exact absurd c2 (by omega)) | (simp at c1; omega) | (exact absurd c1 (by omega))
      · refine lv_iload_n hx hb d_M_line_22 rfl (lv_at hl 3 rfl) ?_
        refine lv_sipush (v := 10000) hx hb d_M_line_23 (by decide) ?_
        refine lv_icmp_le (tgt := 39) hx hb d_M_line_26 (by decide) (fun c4 => ?_) (fun c4 => ?_)
        · refine lv_aload_n hx hb d_M_line_39 rfl (lv_at hl 0 rfl) ?_
          refine va_get (D := D) (ci := 0) (v := .ref (ad 9)) (C := R_M) (T := F_M) (N := 5) hx hb htb iw_M hown hK hP 0 rfl rfl 1 (by decide) (htb _ mw_162) (fun _ h9 => h9) rfl d_M_line_40 ?_
          refine rdV (As := []) (rest := []) (b := ad 9) ⟨hx, hb, hml, hown, htb⟩ (c_N_isFull l D ad kd g z v nl hnl hl2) (cwV (C := R_N) 0 htb (gV tb_good mw_409 mw_410 mw_411 mw_29 mw_412) rfl rfl rfl (by decide +kernel) ⟨Nat.le_of_ble_eq_true rfl, Nat.le_of_ble_eq_true rfl⟩) hP hK (va_recv hK hP (ci := 2) (q0 := 9) rfl rfl) rfl hl.1 rfl (lv_room (Nat.le_of_ble_eq_true rfl)) d_M_line_43 ⟨Nat.zero_le _, Nat.zero_le _⟩ ?_
          refine lv_if_eq (tgt := 59) hx hb d_M_line_46 (by decide) (fun c5 => ?_) (fun c5 => ?_)
          · replace c5 := bI_f c5
            refine lv_aload_n hx hb d_M_line_59 rfl (lv_at hl 0 rfl) ?_
            refine va_get (D := D) (ci := 0) (v := .ref (ad 9)) (C := R_M) (T := F_M) (N := 5) hx hb htb iw_M hown hK hP 0 rfl rfl 1 (by decide) (htb _ mw_162) (fun _ h9 => h9) rfl d_M_line_60 ?_
            refine lv_iload_n hx hb d_M_line_63 rfl (lv_at hl 1 rfl) ?_
            refine lv_iload_n hx hb d_M_line_64 rfl (lv_at hl 2 rfl) ?_
            refine lv_iload_n hx hb d_M_line_65 rfl (lv_at hl 3 rfl) ?_
            refine wrV (As := [.int (nI k), .int x, .int y]) (rest := []) (b := ad 9) ⟨hx, hb, hml, hown, htb⟩ (c_N_add l D ad kd g z v nl hnl hl2 (by omega) k (by omega) x y) (cwV (C := R_N) 3 htb (gV tb_good mw_414 mw_415 mw_416 mw_29 mw_417) rfl rfl rfl (by decide +kernel) ⟨Nat.le_of_ble_eq_true rfl, Nat.le_of_ble_eq_true rfl⟩) hP hK hD hS hA (va_recv hK hP (ci := 2) (q0 := 9) rfl rfl) rfl hl.1 rfl (lv_room (Nat.le_of_ble_eq_true rfl)) d_M_line_66 ⟨Nat.zero_le _, Nat.zero_le _⟩ (fun H locs hP hS => ?_)
            have hP : va_P D classes (wA ad kd (addN g nl k x y) z (upd v 3 (nI nl + 1))) H := hP
            have hD : va_D A (wA ad kd (addN g nl k x y) z (upd v 3 (nI nl + 1))) := wA_D hD
            exact hret _ _ _ _ _ rfl hP hS d_M_line_69
          · replace c5 := bI_t c5
            first | (simp [hc, hw, hin, hy1, hy2] at c5; done) | (simp [hc, hw, hin, hy1, hy2] at c4; done) | (simp [hc, hw, hin, hy1, hy2] at c3; done) | (simp [hc, hw, hin, hy1, hy2] at c2; done) | (simp [hc, hw, hin, hy1, hy2] at c1; done) | (simp at c5; omega) | (exact absurd c5 (by omega)) | (simp at c4; omega) | (exact absurd c4 (by omega)) | (simp at c3; omega) | (exact absurd c3 (by omega)) | (simp at c2; omega) | (exact absurd c2 (by omega)) | (simp at c1; omega) | (exact absurd c1 (by omega))
        · first | (simp [hc, hw, hin, hy1, hy2] at c4; done) | (simp [hc, hw, hin, hy1, hy2] at c3; done) | (simp [hc, hw, hin, hy1, hy2] at c2; done) | (simp [hc, hw, hin, hy1, hy2] at c1; done) | (simp at c4; omega) | (exact absurd c4 (by omega)) | (simp at c3; omega) | (exact absurd c3 (by omega)) | (simp at c2; omega) | (exact absurd c2 (by omega)) | (simp at c1; omega) | (exact absurd c1 (by omega))
set_option maxHeartbeats 4000000 in
set_option maxRecDepth 100000 in
theorem c_M_box (l : Launch) (D : va_G) (ad : Nat → Nat) (kd : Nat → ClassId) (g : Nat → Nat → Int32) (z : Nat → Int64) (v : Nat → Int32) (nx : Nat) (hnx : v 4 = nI nx) (hx6 : nx ≤ 60) (hlt : nx < 60) (x y o : Int32) (hc : isCallS x = true) (hn : isNumS y = true) (hw : isWtS o = true) : WRi l y_M_box (.code y_M_box b_M_box 4 (some .int) :: TB) ({ frames := 1, cells := 0, slots := 0, locals := 24 } : Room) [.ref (ad 0), .int x, .int y, .int o] D classes (wA ad kd g z v) (wA ad kd (if takX g nx x y = true then g else addX g nx x y o) (if takX g nx x y = true then z else vp_updL z nx 0) (if takX g nx x y = true then v else upd v 4 (nI nx + 1))) (tA kd) (if takX g nx x y = true then -1 else nI nx) := by
  refine wr_of (by decide +kernel) (rfl) (Nat.le_of_ble_eq_true rfl) ?_
  intro p e s m args below meth c Q ls A hx hb hml htb hown hP hK hD hS hA hl hret
  have hl : lv_has ls 4 [(0, .ref (ad 0)), (1, .int x), (2, .int y), (3, .int o)] := hl
  refine lv_iload_n hx hb d_M_box_0 rfl (lv_at hl 1 rfl) ?_
  refine rdS (As := [.int x]) (rest := []) ⟨hx, hb, hml, hown, htb⟩ (c_M_isCall l D (wA ad kd g z v) (tA kd) x) (va_cwS 1 htb (gS tb_good mw_227 mw_228 mw_27 mw_229) rfl rfl rfl (by decide +kernel) ⟨Nat.le_of_ble_eq_true rfl, Nat.le_of_ble_eq_true rfl⟩) hP hK rfl hl.1 rfl (lv_room (Nat.le_of_ble_eq_true rfl)) d_M_box_1 ⟨Nat.zero_le _, Nat.zero_le _⟩ ?_
  refine lv_if_eq (tgt := 21) hx hb d_M_box_4 (by decide) (fun c1 => ?_) (fun c1 => ?_)
  · replace c1 := bI_f c1
    first | (simp [hc, hn, hw] at c1; done) | (simp at c1; omega) | (exact absurd c1 (by omega))
  · replace c1 := bI_t c1
    refine lv_iload_n hx hb d_M_box_7 rfl (lv_at hl 2 rfl) ?_
    refine rdS (As := [.int y]) (rest := []) ⟨hx, hb, hml, hown, htb⟩ (c_M_isNumber l D (wA ad kd g z v) (tA kd) y) (va_cwS 1 htb (gS tb_good mw_291 mw_292 mw_27 mw_293) rfl rfl rfl (by decide +kernel) ⟨Nat.le_of_ble_eq_true rfl, Nat.le_of_ble_eq_true rfl⟩) hP hK rfl hl.1 rfl (lv_room (Nat.le_of_ble_eq_true rfl)) d_M_box_8 ⟨Nat.zero_le _, Nat.zero_le _⟩ ?_
    refine lv_if_eq (tgt := 21) hx hb d_M_box_11 (by decide) (fun c2 => ?_) (fun c2 => ?_)
    · replace c2 := bI_f c2
      first | (simp [hc, hn, hw] at c2; done) | (simp [hc, hn, hw] at c1; done) | (simp at c2; omega) | (exact absurd c2 (by omega)) | (simp at c1; omega) | (exact absurd c1 (by omega))
    · replace c2 := bI_t c2
      refine lv_iload_n hx hb d_M_box_14 rfl (lv_at hl 3 rfl) ?_
      refine rdS (As := [.int o]) (rest := []) ⟨hx, hb, hml, hown, htb⟩ (c_M_isWeight l D (wA ad kd g z v) (tA kd) o) (va_cwS 1 htb (gS tb_good mw_219 mw_220 mw_27 mw_221) rfl rfl rfl (by decide +kernel) ⟨Nat.le_of_ble_eq_true rfl, Nat.le_of_ble_eq_true rfl⟩) hP hK rfl hl.1 rfl (lv_room (Nat.le_of_ble_eq_true rfl)) d_M_box_15 ⟨Nat.zero_le _, Nat.zero_le _⟩ ?_
      refine lv_if_ne (tgt := 31) hx hb d_M_box_18 (by decide) (fun c3 => ?_) (fun c3 => ?_)
      · replace c3 := bI_t c3
        refine lv_aload_n hx hb d_M_box_31 rfl (lv_at hl 0 rfl) ?_
        refine va_get (D := D) (ci := 0) (v := .ref (ad 15)) (C := R_M) (T := F_M) (N := 5) hx hb htb iw_M hown hK hP 0 rfl rfl 2 (by decide) (htb _ mw_163) (fun _ h9 => h9) rfl d_M_box_32 ?_
        refine rdV (As := []) (rest := []) (b := ad 15) ⟨hx, hb, hml, hown, htb⟩ (c_X_isFull l D ad kd g z v nx hnx hx6) (cwV (C := R_X) 0 htb (gV tb_good mw_426 mw_427 mw_428 mw_30 mw_429) rfl rfl rfl (by decide +kernel) ⟨Nat.le_of_ble_eq_true rfl, Nat.le_of_ble_eq_true rfl⟩) hP hK (va_recv hK hP (ci := 3) (q0 := 15) rfl rfl) rfl hl.1 rfl (lv_room (Nat.le_of_ble_eq_true rfl)) d_M_box_35 ⟨Nat.zero_le _, Nat.zero_le _⟩ ?_
        refine lv_if_eq (tgt := 51) hx hb d_M_box_38 (by decide) (fun c4 => ?_) (fun c4 => ?_)
        · replace c4 := bI_f c4
          refine lv_aload_n hx hb d_M_box_51 rfl (lv_at hl 0 rfl) ?_
          refine va_get (D := D) (ci := 0) (v := .ref (ad 15)) (C := R_M) (T := F_M) (N := 5) hx hb htb iw_M hown hK hP 0 rfl rfl 2 (by decide) (htb _ mw_163) (fun _ h9 => h9) rfl d_M_box_52 ?_
          refine lv_iload_n hx hb d_M_box_55 rfl (lv_at hl 1 rfl) ?_
          refine lv_iload_n hx hb d_M_box_56 rfl (lv_at hl 2 rfl) ?_
          refine rdV (As := [.int x, .int y]) (rest := []) (b := ad 15) ⟨hx, hb, hml, hown, htb⟩ (c_X_isTaken l D ad kd g z v nx hnx hx6 x y) (cwV (C := R_X) 2 htb (gV tb_good mw_431 mw_432 mw_433 mw_30 mw_434) rfl rfl rfl (by decide +kernel) ⟨Nat.le_of_ble_eq_true rfl, Nat.le_of_ble_eq_true rfl⟩) hP hK (va_recv hK hP (ci := 3) (q0 := 15) rfl rfl) rfl hl.1 rfl (lv_room (Nat.le_of_ble_eq_true rfl)) d_M_box_57 ⟨Nat.zero_le _, Nat.zero_le _⟩ ?_
          refine lv_if_eq (tgt := 65) hx hb d_M_box_60 (by decide) (fun c5 => ?_) (fun c5 => ?_)
          · replace c5 := bI_f c5
            refine lv_aload_n hx hb d_M_box_65 rfl (lv_at hl 0 rfl) ?_
            refine va_get (D := D) (ci := 0) (v := .ref (ad 15)) (C := R_M) (T := F_M) (N := 5) hx hb htb iw_M hown hK hP 0 rfl rfl 2 (by decide) (htb _ mw_163) (fun _ h9 => h9) rfl d_M_box_66 ?_
            refine lv_iload_n hx hb d_M_box_69 rfl (lv_at hl 1 rfl) ?_
            refine lv_iload_n hx hb d_M_box_70 rfl (lv_at hl 2 rfl) ?_
            refine lv_iload_n hx hb d_M_box_71 rfl (lv_at hl 3 rfl) ?_
            refine wrV (As := [.int x, .int y, .int o]) (rest := []) (b := ad 15) ⟨hx, hb, hml, hown, htb⟩ (c_X_add l D ad kd g z v nx hnx hx6 (by omega) x y o) (cwV (C := R_X) 3 htb (gV tb_good mw_435 mw_436 mw_437 mw_30 mw_438) rfl rfl rfl (by decide +kernel) ⟨Nat.le_of_ble_eq_true rfl, Nat.le_of_ble_eq_true rfl⟩) hP hK hD hS hA (va_recv hK hP (ci := 3) (q0 := 15) rfl rfl) rfl hl.1 rfl (lv_room (Nat.le_of_ble_eq_true rfl)) d_M_box_72 ⟨Nat.zero_le _, Nat.zero_le _⟩ (fun H locs hP hS => ?_)
            have hP : va_P D classes (wA ad kd (addX g nx x y o) (vp_updL z nx 0) (upd v 4 (nI nx + 1))) H := hP
            have hD : va_D A (wA ad kd (addX g nx x y o) (vp_updL z nx 0) (upd v 4 (nI nx + 1))) := wA_D hD
            exact hret _ _ _ _ _ (by simp [c1, c2, c3, c4, c5]) (by simp only [c5, if_true, Bool.false_eq_true, if_false]; exact hP) hS d_M_box_75
          · replace c5 := bI_t c5
            refine lv_iconst (v := (-1)) hx hb d_M_box_63 (by decide) ?_
            exact hret _ _ _ _ _ (by simp [c1, c2, c3, c4, c5]) (by simp only [c5, if_true, Bool.false_eq_true, if_false]; exact hP) hS d_M_box_64
        · replace c4 := bI_t c4
          first | (simp [hc, hn, hw] at c4; done) | (simp [hc, hn, hw] at c3; done) | (simp [hc, hn, hw] at c2; done) | (simp [hc, hn, hw] at c1; done) | (simp at c4; omega) | (exact absurd c4 (by omega)) | (simp at c3; omega) | (exact absurd c3 (by omega)) | (simp at c2; omega) | (exact absurd c2 (by omega)) | (simp at c1; omega) | (exact absurd c1 (by omega))
      · replace c3 := bI_f c3
        first | (simp [hc, hn, hw] at c3; done) | (simp [hc, hn, hw] at c2; done) | (simp [hc, hn, hw] at c1; done) | (simp at c3; omega) | (exact absurd c3 (by omega)) | (simp at c2; omega) | (exact absurd c2 (by omega)) | (simp at c1; omega) | (exact absurd c1 (by omega))
set_option maxHeartbeats 4000000 in
set_option maxRecDepth 100000 in
theorem c_M_amend (l : Launch) (D : va_G) (ad : Nat → Nat) (kd : Nat → ClassId) (g : Nat → Nat → Int32) (z : Nat → Int64) (v : Nat → Int32) (nb : Nat) (hnb : v 2 = nI nb) (hb6 : nb ≤ 60) (nl : Nat) (hnl : v 3 = nI nl) (hl2 : nl ≤ 200) (k : Nat) (hk : k < nb) (ln w : Int32) (hw : isWtS w = true) (i : Nat) (hi : i < nl) (hrow : rowN g nl (nI k) ln = nI i) (hgi : g 10 i = nI k) : WRi l y_M_amend (.code y_M_amend b_M_amend 7 (some .int) :: TB) ({ frames := 1, cells := 0, slots := 0, locals := 24 } : Room) [.ref (ad 0), .int (nI k), .int ln, .int w] D classes (wA ad kd g z v) (wA ad kd (chgN g i w k) z (amdV g v i k w)) (tA kd) (amdR g v i k w) := by
  refine wr_of (by decide +kernel) (rfl) (Nat.le_of_ble_eq_true rfl) ?_
  intro p e s m args below meth c Q ls A hx hb hml htb hown hP hK hD hS hA hl hret
  have hl : lv_has ls 7 [(0, .ref (ad 0)), (1, .int (nI k)), (2, .int ln), (3, .int w)] := hl
  have hin : inN nb (nI k) = true := inN_nI hk (by omega)
  have hni : ¬ nI i = -1 := nI_nm1 (by omega)
  refine lv_aload_n hx hb d_M_amend_0 rfl (lv_at hl 0 rfl) ?_
  refine va_get (D := D) (ci := 0) (v := .ref (ad 1)) (C := R_M) (T := F_M) (N := 5) hx hb htb iw_M hown hK hP 0 rfl rfl 0 (by decide) (htb _ mw_161) (fun _ h9 => h9) rfl d_M_amend_1 ?_
  refine lv_iload_n hx hb d_M_amend_4 rfl (lv_at hl 1 rfl) ?_
  refine rdV (As := [.int (nI k)]) (rest := []) (b := ad 1) ⟨hx, hb, hml, hown, htb⟩ (c_B_has l D ad kd g z v nb hnb hb6 (nI k)) (cwV (C := R_B) 1 htb (gV tb_good mw_185 mw_186 mw_187 mw_28 mw_188) rfl rfl rfl (by decide +kernel) ⟨Nat.le_of_ble_eq_true rfl, Nat.le_of_ble_eq_true rfl⟩) hP hK (va_recv hK hP (ci := 1) (q0 := 1) rfl rfl) rfl hl.1 rfl (lv_room (Nat.le_of_ble_eq_true rfl)) d_M_amend_5 ⟨Nat.zero_le _, Nat.zero_le _⟩ ?_
  refine lv_if_eq (tgt := 23) hx hb d_M_amend_8 (by decide) (fun c1 => ?_) (fun c1 => ?_)
  · replace c1 := bI_f c1
    refine lv_iconst (v := (-1)) hx hb d_M_amend_23 (by decide) ?_
    refine lv_istore (lv' := [(4, .int (-1)), (0, .ref (ad 0)), (1, .int (nI k)), (2, .int ln), (3, .int w)]) hx hb d_M_amend_24 hl (by decide) rfl (fun ls hl => ?_)
    refine lv_iload hx hb d_M_amend_26 (lv_at hl 0 rfl) ?_
    refine lv_iconst (v := (-1)) hx hb d_M_amend_28 (by decide) ?_
    refine lv_icmp_eq (tgt := 39) hx hb d_M_amend_29 (by decide) (fun c2 => ?_) (fun c2 => ?_)
    · first | (simp [hw, hin, hni] at c2; done) | (simp [hw, hin, hni] at c1; done) | (simp at c2; omega) | (exact absurd c2 (by omega)) | (simp at c1; omega) | (exact absurd c1 (by omega))
    · exact absurd c2 (by decide)
  · replace c1 := bI_t c1
    refine lv_aload_n hx hb d_M_amend_11 rfl (lv_at hl 0 rfl) ?_
    refine va_get (D := D) (ci := 0) (v := .ref (ad 9)) (C := R_M) (T := F_M) (N := 5) hx hb htb iw_M hown hK hP 0 rfl rfl 1 (by decide) (htb _ mw_162) (fun _ h9 => h9) rfl d_M_amend_12 ?_
    refine lv_iload_n hx hb d_M_amend_15 rfl (lv_at hl 1 rfl) ?_
    refine lv_iload_n hx hb d_M_amend_16 rfl (lv_at hl 2 rfl) ?_
    refine rdV (As := [.int (nI k), .int ln]) (rest := []) (b := ad 9) ⟨hx, hb, hml, hown, htb⟩ (c_N_rowOf l D ad kd g z v nl hnl hl2 (nI k) ln) (cwV (C := R_N) 2 htb (gV tb_good mw_446 mw_447 mw_448 mw_29 mw_449) rfl rfl rfl (by decide +kernel) ⟨Nat.le_of_ble_eq_true rfl, Nat.le_of_ble_eq_true rfl⟩) hP hK (va_recv hK hP (ci := 2) (q0 := 9) rfl rfl) rfl hl.1 rfl (lv_room (Nat.le_of_ble_eq_true rfl)) d_M_amend_17 ⟨Nat.zero_le _, Nat.zero_le _⟩ ?_
    refine W.eq (congrArg (fun z => F0 m 20 ls (.int z :: [])) (show (rowN g nl (nI k) ln) = (nI i) from hrow)) ?_
    refine lv_goto (tgt := 24) hx hb d_M_amend_20 (by decide) ?_
    refine lv_istore (lv' := [(4, .int (nI i)), (0, .ref (ad 0)), (1, .int (nI k)), (2, .int ln), (3, .int w)]) hx hb d_M_amend_24 hl (by decide) rfl (fun ls hl => ?_)
    refine lv_iload hx hb d_M_amend_26 (lv_at hl 0 rfl) ?_
    refine lv_iconst (v := (-1)) hx hb d_M_amend_28 (by decide) ?_
    refine lv_icmp_eq (tgt := 39) hx hb d_M_amend_29 (by decide) (fun c3 => ?_) (fun c3 => ?_)
    · first | (simp [hw, hin, hni] at c3; done) | (simp [hw, hin, hni] at c1; done) | (simp at c3; omega) | (exact absurd c3 (by omega)) | (simp at c1; omega) | (exact absurd c1 (by omega))
    · refine lv_iload_n hx hb d_M_amend_32 rfl (lv_at hl 4 rfl) ?_
      refine rdS (As := [.int w]) (rest := []) ⟨hx, hb, hml, hown, htb⟩ (c_M_isWeight l D (wA ad kd g z v) (tA kd) w) (va_cwS 1 htb (gS tb_good mw_219 mw_220 mw_27 mw_221) rfl rfl rfl (by decide +kernel) ⟨Nat.le_of_ble_eq_true rfl, Nat.le_of_ble_eq_true rfl⟩) hP hK rfl hl.1 rfl (lv_room (Nat.le_of_ble_eq_true rfl)) d_M_amend_33 ⟨Nat.zero_le _, Nat.zero_le _⟩ ?_
      refine lv_if_ne (tgt := 49) hx hb d_M_amend_36 (by decide) (fun c4 => ?_) (fun c4 => ?_)
      · replace c4 := bI_t c4
        refine lv_aload_n hx hb d_M_amend_49 rfl (lv_at hl 1 rfl) ?_
        refine va_get (D := D) (ci := 0) (v := .ref (ad 9)) (C := R_M) (T := F_M) (N := 5) hx hb htb iw_M hown hK hP 0 rfl rfl 1 (by decide) (htb _ mw_162) (fun _ h9 => h9) rfl d_M_amend_50 ?_
        refine lv_iload hx hb d_M_amend_53 (lv_at hl 0 rfl) ?_
        refine lv_iload_n hx hb d_M_amend_55 rfl (lv_at hl 4 rfl) ?_
        refine wrV (As := [.int (nI i), .int w]) (rest := []) (b := ad 9) ⟨hx, hb, hml, hown, htb⟩ (c_N_changeWeight l D ad kd g z v i (by omega) w k (by omega) hgi) (cwV (C := R_N) 2 htb (gV tb_good mw_451 mw_452 mw_453 mw_29 mw_454) rfl rfl rfl (by decide +kernel) ⟨Nat.le_of_ble_eq_true rfl, Nat.le_of_ble_eq_true rfl⟩) hP hK hD hS hA (va_recv hK hP (ci := 2) (q0 := 9) rfl rfl) rfl hl.1 rfl (lv_room (Nat.le_of_ble_eq_true rfl)) d_M_amend_56 ⟨Nat.zero_le _, Nat.zero_le _⟩ (fun H locs hP hS => ?_)
        have hP : va_P D classes (wA ad kd (chgN g i w k) z v) H := hP
        have hD : va_D A (wA ad kd (chgN g i w k) z v) := wA_D hD
        refine lv_istore (lv' := [(5, .int (w - g 11 i)), (4, .int (nI i)), (0, .ref (ad 0)), (1, .int (nI k)), (2, .int ln), (3, .int w)]) hx hb d_M_amend_59 hl (by decide) rfl (fun ls hl => ?_)
        refine lv_iload hx hb d_M_amend_61 (lv_at hl 0 rfl) ?_
        refine lv_if_eq (tgt := 82) hx hb d_M_amend_63 (by decide) (fun c5 => ?_) (fun c5 => ?_)
        · refine lv_iconst (v := 0) hx hb d_M_amend_82 (by decide) ?_
          exact hret _ _ _ _ _ (by simp [amdR, c1, c3, c4, c5]) (by rw [show amdV g v i k w = v by simp [amdV, c1, c3, c4, c5]]; exact hP) hS d_M_amend_83
        · refine lv_aload_n hx hb d_M_amend_66 rfl (lv_at hl 2 rfl) ?_
          refine lv_aload_n hx hb d_M_amend_67 rfl (lv_at hl 2 rfl) ?_
          refine va_get (D := D) (ci := 0) (v := .ref (ad 1)) (C := R_M) (T := F_M) (N := 5) hx hb htb iw_M hown hK hP 0 rfl rfl 0 (by decide) (htb _ mw_161) (fun _ h9 => h9) rfl d_M_amend_68 ?_
          refine va_get (D := D) (ci := 1) (v := .ref (ad 2)) (C := R_B) (T := F_B) (N := 8) hx hb htb iw_B hown hK hP 1 rfl rfl 1 (by decide) (htb _ mw_58) (fun _ h9 => h9) rfl d_M_amend_71 ?_
          refine lv_iload_n hx hb d_M_amend_74 rfl (lv_at hl 3 rfl) ?_
          refine q_iald hx hb hK hP 2 0 rfl rfl k (by omega) (by decide) d_M_amend_75 ?_
          refine rdV (As := [.int (g 2 k)]) (rest := []) (b := ad 0) ⟨hx, hb, hml, hown, htb⟩ (c_M_hasArrived l D ad kd (chgN g i w k) z v (g 2 k)) (cwV (C := R_M) 1 htb (gV tb_good mw_230 mw_232 mw_0 mw_27 mw_233) rfl rfl rfl (by decide +kernel) ⟨Nat.le_of_ble_eq_true rfl, Nat.le_of_ble_eq_true rfl⟩) hP hK (va_recv hK hP (ci := 0) (q0 := 0) rfl rfl) rfl hl.1 rfl (lv_room (Nat.le_of_ble_eq_true rfl)) d_M_amend_76 ⟨Nat.zero_le _, Nat.zero_le _⟩ ?_
          refine lv_if_ne (tgt := 84) hx hb d_M_amend_79 (by decide) (fun c6 => ?_) (fun c6 => ?_)
          · replace c6 := bI_t c6
            refine lv_bipush (v := 100) hx hb d_M_amend_84 (by decide) ?_
            refine lv_iload hx hb d_M_amend_86 (lv_at hl 0 rfl) ?_
            refine va_mabs hx hb (by rw [hml]; exact hl.1.symm) hown (htb _ mw_455) (htb _ mw_456) (htb _ mw_38) (htb _ mw_457) (Nat.le_of_ble_eq_true rfl) (Nat.le_of_ble_eq_true rfl) (Nat.zero_le _) (Nat.zero_le _) d_M_amend_88 ?_
            refine lv_sipush (v := 1000) hx hb d_M_amend_91 (by decide) ?_
            refine lv_idiv hx hb d_M_amend_94 (by decide) ?_
            refine lv_iadd hx hb d_M_amend_95 ?_
            refine lv_istore (lv' := [(6, .int (100 + ((if 0 ≤ (w - g 11 i) then (w - g 11 i) else 0 - (w - g 11 i)) / 1000))), (5, .int (w - g 11 i)), (4, .int (nI i)), (0, .ref (ad 0)), (1, .int (nI k)), (2, .int ln), (3, .int w)]) hx hb d_M_amend_96 hl (by decide) rfl (fun ls hl => ?_)
            refine lv_aload_n hx hb d_M_amend_98 rfl (lv_at hl 3 rfl) ?_
            refine lv_dup hx hb d_M_amend_99 rfl ?_
            refine va_get (D := D) (ci := 0) (v := .int (v 1)) (C := R_M) (T := F_M) (N := 5) hx hb htb iw_M hown hK hP 0 rfl rfl 4 (by decide) (htb _ mw_165) (fun _ h9 => h9) rfl d_M_amend_100 ?_
            refine lv_iload hx hb d_M_amend_103 (lv_at hl 0 rfl) ?_
            refine lv_iadd hx hb d_M_amend_105 ?_
            refine va_put (D := D) (ci := 0) (v := .int ((v 1) + (100 + ((if 0 ≤ (w - g 11 i) then (w - g 11 i) else 0 - (w - g 11 i)) / 1000)))) (ty := .int) (C := R_M) (T := F_M) (N := 5) hx hb htb iw_M t_M t_M_ok n_M hown hK hP hD hS 0 rfl rfl 4 (by decide) (htb _ mw_165) (fun _ h9 => h9) rfl (by decide +kernel) rfl rfl (Nat.le_of_ble_eq_true rfl) d_M_amend_106 (fun H locs hP hD hS => ?_)
            have hP : va_P D classes (wA ad kd (chgN g i w k) z (upd v 1 ((v 1) + (100 + ((if 0 ≤ (w - g 11 i) then (w - g 11 i) else 0 - (w - g 11 i)) / 1000))))) H := hP
            have hD : va_D A (wA ad kd (chgN g i w k) z (upd v 1 ((v 1) + (100 + ((if 0 ≤ (w - g 11 i) then (w - g 11 i) else 0 - (w - g 11 i)) / 1000))))) := hD
            refine lv_iload hx hb d_M_amend_109 (lv_at hl 0 rfl) ?_
            exact hret _ _ _ _ _ (by simp [amdR, c1, c3, c4, c5, c6]) (by rw [show amdV g v i k w = (upd v 1 ((v 1) + (100 + ((if 0 ≤ (w - g 11 i) then (w - g 11 i) else 0 - (w - g 11 i)) / 1000)))) by simp [amdV, c1, c3, c4, c5, c6]]; exact hP) hS d_M_amend_111
          · replace c6 := bI_f c6
            refine lv_iconst (v := 0) hx hb d_M_amend_82 (by decide) ?_
            exact hret _ _ _ _ _ (by simp [amdR, c1, c3, c4, c5, c6]) (by rw [show amdV g v i k w = v by simp [amdV, c1, c3, c4, c5, c6]]; exact hP) hS d_M_amend_83
      · replace c4 := bI_f c4
        first | (simp [hw, hin, hni] at c4; done) | (simp [hw, hin, hni] at c3; done) | (simp [hw, hin, hni] at c1; done) | (simp at c4; omega) | (exact absurd c4 (by omega)) | (simp at c3; omega) | (exact absurd c3 (by omega)) | (simp at c1; omega) | (exact absurd c1 (by omega))
set_option maxHeartbeats 4000000 in
set_option maxRecDepth 100000 in
theorem c_M_title (l : Launch) (D : va_G) (ad : Nat → Nat) (kd : Nat → ClassId) (g : Nat → Nat → Int32) (z : Nat → Int64) (v : Nat → Int32) (nb : Nat) (hnb : v 2 = nI nb) (hb6 : nb ≤ 60) (k : Nat) (hk : k < nb) (f t : Int32) (hf : isHoS f = true) (ht : isHoS t = true) (hne : ¬ f = t) : WRi l y_M_title (.code y_M_title b_M_title 4 (some .int) :: TB) ({ frames := 1, cells := 0, slots := 0, locals := 21 } : Room) [.ref (ad 0), .int (nI k), .int f, .int t] D classes (wA ad kd g z v) (wA ad kd (if titR g k f = true then up g 7 k t else g) z v) (tA kd) (bI (titR g k f)) := by
  refine wr_of (by decide +kernel) (rfl) (Nat.le_of_ble_eq_true rfl) ?_
  intro p e s m args below meth c Q ls A hx hb hml htb hown hP hK hD hS hA hl hret
  have hl : lv_has ls 4 [(0, .ref (ad 0)), (1, .int (nI k)), (2, .int f), (3, .int t)] := hl
  have hin : inN nb (nI k) = true := inN_nI hk (by omega)
  refine lv_aload_n hx hb d_M_title_0 rfl (lv_at hl 0 rfl) ?_
  refine va_get (D := D) (ci := 0) (v := .ref (ad 1)) (C := R_M) (T := F_M) (N := 5) hx hb htb iw_M hown hK hP 0 rfl rfl 0 (by decide) (htb _ mw_161) (fun _ h9 => h9) rfl d_M_title_1 ?_
  refine lv_iload_n hx hb d_M_title_4 rfl (lv_at hl 1 rfl) ?_
  refine rdV (As := [.int (nI k)]) (rest := []) (b := ad 1) ⟨hx, hb, hml, hown, htb⟩ (c_B_has l D ad kd g z v nb hnb hb6 (nI k)) (cwV (C := R_B) 1 htb (gV tb_good mw_185 mw_186 mw_187 mw_28 mw_188) rfl rfl rfl (by decide +kernel) ⟨Nat.le_of_ble_eq_true rfl, Nat.le_of_ble_eq_true rfl⟩) hP hK (va_recv hK hP (ci := 1) (q0 := 1) rfl rfl) rfl hl.1 rfl (lv_room (Nat.le_of_ble_eq_true rfl)) d_M_title_5 ⟨Nat.zero_le _, Nat.zero_le _⟩ ?_
  refine lv_if_eq (tgt := 30) hx hb d_M_title_8 (by decide) (fun c1 => ?_) (fun c1 => ?_)
  · replace c1 := bI_f c1
    first | (simp [hf, ht, hin, hne] at c1; done) | (simp at c1; omega) | (exact absurd c1 (by omega))
  · replace c1 := bI_t c1
    refine lv_iload_n hx hb d_M_title_11 rfl (lv_at hl 2 rfl) ?_
    refine rdS (As := [.int f]) (rest := []) ⟨hx, hb, hml, hown, htb⟩ (c_M_isHolder l D (wA ad kd g z v) (tA kd) f) (va_cwS 1 htb (gS tb_good mw_465 mw_466 mw_27 mw_467) rfl rfl rfl (by decide +kernel) ⟨Nat.le_of_ble_eq_true rfl, Nat.le_of_ble_eq_true rfl⟩) hP hK rfl hl.1 rfl (lv_room (Nat.le_of_ble_eq_true rfl)) d_M_title_12 ⟨Nat.zero_le _, Nat.zero_le _⟩ ?_
    refine lv_if_eq (tgt := 30) hx hb d_M_title_15 (by decide) (fun c2 => ?_) (fun c2 => ?_)
    · replace c2 := bI_f c2
      first | (simp [hf, ht, hin, hne] at c2; done) | (simp [hf, ht, hin, hne] at c1; done) | (simp at c2; omega) | (exact absurd c2 (by omega)) | (simp at c1; omega) | (exact absurd c1 (by omega))
    · replace c2 := bI_t c2
      refine lv_iload_n hx hb d_M_title_18 rfl (lv_at hl 3 rfl) ?_
      refine rdS (As := [.int t]) (rest := []) ⟨hx, hb, hml, hown, htb⟩ (c_M_isHolder l D (wA ad kd g z v) (tA kd) t) (va_cwS 1 htb (gS tb_good mw_465 mw_466 mw_27 mw_467) rfl rfl rfl (by decide +kernel) ⟨Nat.le_of_ble_eq_true rfl, Nat.le_of_ble_eq_true rfl⟩) hP hK rfl hl.1 rfl (lv_room (Nat.le_of_ble_eq_true rfl)) d_M_title_19 ⟨Nat.zero_le _, Nat.zero_le _⟩ ?_
      refine lv_if_eq (tgt := 30) hx hb d_M_title_22 (by decide) (fun c3 => ?_) (fun c3 => ?_)
      · replace c3 := bI_f c3
        first | (simp [hf, ht, hin, hne] at c3; done) | (simp [hf, ht, hin, hne] at c2; done) | (simp [hf, ht, hin, hne] at c1; done) | (simp at c3; omega) | (exact absurd c3 (by omega)) | (simp at c2; omega) | (exact absurd c2 (by omega)) | (simp at c1; omega) | (exact absurd c1 (by omega))
      · replace c3 := bI_t c3
        refine lv_iload_n hx hb d_M_title_25 rfl (lv_at hl 2 rfl) ?_
        refine lv_iload_n hx hb d_M_title_26 rfl (lv_at hl 3 rfl) ?_
        refine lv_icmp_ne (tgt := 40) hx hb d_M_title_27 (by decide) (fun c4 => ?_) (fun c4 => ?_)
        · refine lv_aload_n hx hb d_M_title_40 rfl (lv_at hl 0 rfl) ?_
          refine va_get (D := D) (ci := 0) (v := .ref (ad 1)) (C := R_M) (T := F_M) (N := 5) hx hb htb iw_M hown hK hP 0 rfl rfl 0 (by decide) (htb _ mw_161) (fun _ h9 => h9) rfl d_M_title_41 ?_
          refine va_get (D := D) (ci := 1) (v := .ref (ad 7)) (C := R_B) (T := F_B) (N := 8) hx hb htb iw_B hown hK hP 1 rfl rfl 6 (by decide) (htb _ mw_68) (fun _ h9 => h9) rfl d_M_title_44 ?_
          refine lv_iload_n hx hb d_M_title_47 rfl (lv_at hl 1 rfl) ?_
          refine q_iald hx hb hK hP 7 5 rfl rfl k (by omega) (by decide) d_M_title_48 ?_
          refine lv_iload_n hx hb d_M_title_49 rfl (lv_at hl 2 rfl) ?_
          refine lv_icmp_ne (tgt := 64) hx hb d_M_title_50 (by decide) (fun c5 => ?_) (fun c5 => ?_)
          · refine lv_iconst (v := 0) hx hb d_M_title_64 (by decide) ?_
            exact hret _ _ _ _ _ (by simp [titR, bI, c1, c2, c3, c4, c5]) (by rw [show titR g k f = false by simp [titR, c1, c2, c3, c4, c5]]; exact hP) hS d_M_title_65
          · refine lv_aload_n hx hb d_M_title_53 rfl (lv_at hl 0 rfl) ?_
            refine va_get (D := D) (ci := 0) (v := .ref (ad 1)) (C := R_M) (T := F_M) (N := 5) hx hb htb iw_M hown hK hP 0 rfl rfl 0 (by decide) (htb _ mw_161) (fun _ h9 => h9) rfl d_M_title_54 ?_
            refine lv_iload_n hx hb d_M_title_57 rfl (lv_at hl 1 rfl) ?_
            refine rdV (As := [.int (nI k)]) (rest := []) (b := ad 1) ⟨hx, hb, hml, hown, htb⟩ (c_B_isOrdered l D ad kd g z v k (by omega)) (cwV (C := R_B) 1 htb (gV tb_good mw_469 mw_390 mw_391 mw_28 mw_392) rfl rfl rfl (by decide +kernel) ⟨Nat.le_of_ble_eq_true rfl, Nat.le_of_ble_eq_true rfl⟩) hP hK (va_recv hK hP (ci := 1) (q0 := 1) rfl rfl) rfl hl.1 rfl (lv_room (Nat.le_of_ble_eq_true rfl)) d_M_title_58 ⟨Nat.zero_le _, Nat.zero_le _⟩ ?_
            refine lv_if_eq (tgt := 66) hx hb d_M_title_61 (by decide) (fun c6 => ?_) (fun c6 => ?_)
            · replace c6 := bI_f c6
              refine lv_aload_n hx hb d_M_title_66 rfl (lv_at hl 0 rfl) ?_
              refine va_get (D := D) (ci := 0) (v := .ref (ad 1)) (C := R_M) (T := F_M) (N := 5) hx hb htb iw_M hown hK hP 0 rfl rfl 0 (by decide) (htb _ mw_161) (fun _ h9 => h9) rfl d_M_title_67 ?_
              refine va_get (D := D) (ci := 1) (v := .ref (ad 7)) (C := R_B) (T := F_B) (N := 8) hx hb htb iw_B hown hK hP 1 rfl rfl 6 (by decide) (htb _ mw_68) (fun _ h9 => h9) rfl d_M_title_70 ?_
              refine lv_iload_n hx hb d_M_title_73 rfl (lv_at hl 1 rfl) ?_
              refine lv_iload_n hx hb d_M_title_74 rfl (lv_at hl 3 rfl) ?_
              refine q_iast hx hb hK hP hD hS 7 5 rfl rfl k (x := t) (by omega) (by decide) d_M_title_75 (fun H locs hP hD hS => ?_)
              have hP : va_P D classes (wA ad kd (up g 7 k t) z v) H := hP
              have hD : va_D A (wA ad kd (up g 7 k t) z v) := hD
              refine lv_iconst (v := 1) hx hb d_M_title_76 (by decide) ?_
              exact hret _ _ _ _ _ (by simp [titR, bI, c1, c2, c3, c4, c5, c6]) (by rw [show titR g k f = true by simp [titR, c1, c2, c3, c4, c5, c6]]; exact hP) hS d_M_title_77
            · replace c6 := bI_t c6
              refine lv_iconst (v := 0) hx hb d_M_title_64 (by decide) ?_
              exact hret _ _ _ _ _ (by simp [titR, bI, c1, c2, c3, c4, c5, c6]) (by rw [show titR g k f = false by simp [titR, c1, c2, c3, c4, c5, c6]]; exact hP) hS d_M_title_65
        · first | (simp [hf, ht, hin, hne] at c4; done) | (simp [hf, ht, hin, hne] at c3; done) | (simp [hf, ht, hin, hne] at c2; done) | (simp [hf, ht, hin, hne] at c1; done) | (simp at c4; omega) | (exact absurd c4 (by omega)) | (simp at c3; omega) | (exact absurd c3 (by omega)) | (simp at c2; omega) | (exact absurd c2 (by omega)) | (simp at c1; omega) | (exact absurd c1 (by omega))
set_option maxHeartbeats 4000000 in
set_option maxRecDepth 100000 in
theorem c_M_order (l : Launch) (D : va_G) (ad : Nat → Nat) (kd : Nat → ClassId) (g : Nat → Nat → Int32) (z : Nat → Int64) (v : Nat → Int32) (nb : Nat) (hnb : v 2 = nI nb) (hb6 : nb ≤ 60) (nx : Nat) (hnx : v 4 = nI nx) (hx6 : nx ≤ 60) (k : Nat) (hk : k < nb) (j : Nat) (hj : j < nx) (h : Int32) (hh : isHoS h = true) : WRi l y_M_order (.code y_M_order b_M_order 4 (some .int) :: TB) ({ frames := 1, cells := 0, slots := 0, locals := 22 } : Room) [.ref (ad 0), .int (nI k), .int (nI j), .int h] D classes (wA ad kd g z v) (wA ad kd (if ordR g z k j h = true then up (up g 21 j (nI k)) 8 k (g 8 k + 1) else g) z v) (tA kd) (bI (ordR g z k j h)) := by
  refine wr_of (by decide +kernel) (rfl) (Nat.le_of_ble_eq_true rfl) ?_
  intro p e s m args below meth c Q ls A hx hb hml htb hown hP hK hD hS hA hl hret
  have hl : lv_has ls 4 [(0, .ref (ad 0)), (1, .int (nI k)), (2, .int (nI j)), (3, .int h)] := hl
  have hin : inN nb (nI k) = true := inN_nI hk (by omega)
  have hjn : inN nx (nI j) = true := inN_nI hj (by omega)
  refine lv_aload_n hx hb d_M_order_0 rfl (lv_at hl 0 rfl) ?_
  refine va_get (D := D) (ci := 0) (v := .ref (ad 1)) (C := R_M) (T := F_M) (N := 5) hx hb htb iw_M hown hK hP 0 rfl rfl 0 (by decide) (htb _ mw_161) (fun _ h9 => h9) rfl d_M_order_1 ?_
  refine lv_iload_n hx hb d_M_order_4 rfl (lv_at hl 1 rfl) ?_
  refine rdV (As := [.int (nI k)]) (rest := []) (b := ad 1) ⟨hx, hb, hml, hown, htb⟩ (c_B_has l D ad kd g z v nb hnb hb6 (nI k)) (cwV (C := R_B) 1 htb (gV tb_good mw_185 mw_186 mw_187 mw_28 mw_188) rfl rfl rfl (by decide +kernel) ⟨Nat.le_of_ble_eq_true rfl, Nat.le_of_ble_eq_true rfl⟩) hP hK (va_recv hK hP (ci := 1) (q0 := 1) rfl rfl) rfl hl.1 rfl (lv_room (Nat.le_of_ble_eq_true rfl)) d_M_order_5 ⟨Nat.zero_le _, Nat.zero_le _⟩ ?_
  refine lv_if_eq (tgt := 29) hx hb d_M_order_8 (by decide) (fun c1 => ?_) (fun c1 => ?_)
  · replace c1 := bI_f c1
    first | (simp [hh, hin, hjn] at c1; done) | (simp at c1; omega) | (exact absurd c1 (by omega))
  · replace c1 := bI_t c1
    refine lv_aload_n hx hb d_M_order_11 rfl (lv_at hl 0 rfl) ?_
    refine va_get (D := D) (ci := 0) (v := .ref (ad 15)) (C := R_M) (T := F_M) (N := 5) hx hb htb iw_M hown hK hP 0 rfl rfl 2 (by decide) (htb _ mw_163) (fun _ h9 => h9) rfl d_M_order_12 ?_
    refine lv_iload_n hx hb d_M_order_15 rfl (lv_at hl 2 rfl) ?_
    refine rdV (As := [.int (nI j)]) (rest := []) (b := ad 15) ⟨hx, hb, hml, hown, htb⟩ (c_X_has l D ad kd g z v nx hnx hx6 (nI j)) (cwV (C := R_X) 1 htb (gV tb_good mw_181 mw_182 mw_183 mw_30 mw_184) rfl rfl rfl (by decide +kernel) ⟨Nat.le_of_ble_eq_true rfl, Nat.le_of_ble_eq_true rfl⟩) hP hK (va_recv hK hP (ci := 3) (q0 := 15) rfl rfl) rfl hl.1 rfl (lv_room (Nat.le_of_ble_eq_true rfl)) d_M_order_16 ⟨Nat.zero_le _, Nat.zero_le _⟩ ?_
    refine lv_if_eq (tgt := 29) hx hb d_M_order_19 (by decide) (fun c2 => ?_) (fun c2 => ?_)
    · replace c2 := bI_f c2
      first | (simp [hh, hin, hjn] at c2; done) | (simp [hh, hin, hjn] at c1; done) | (simp at c2; omega) | (exact absurd c2 (by omega)) | (simp at c1; omega) | (exact absurd c1 (by omega))
    · replace c2 := bI_t c2
      refine lv_iload_n hx hb d_M_order_22 rfl (lv_at hl 3 rfl) ?_
      refine rdS (As := [.int h]) (rest := []) ⟨hx, hb, hml, hown, htb⟩ (c_M_isHolder l D (wA ad kd g z v) (tA kd) h) (va_cwS 1 htb (gS tb_good mw_465 mw_466 mw_27 mw_467) rfl rfl rfl (by decide +kernel) ⟨Nat.le_of_ble_eq_true rfl, Nat.le_of_ble_eq_true rfl⟩) hP hK rfl hl.1 rfl (lv_room (Nat.le_of_ble_eq_true rfl)) d_M_order_23 ⟨Nat.zero_le _, Nat.zero_le _⟩ ?_
      refine lv_if_ne (tgt := 39) hx hb d_M_order_26 (by decide) (fun c3 => ?_) (fun c3 => ?_)
      · replace c3 := bI_t c3
        refine lv_aload_n hx hb d_M_order_39 rfl (lv_at hl 0 rfl) ?_
        refine va_get (D := D) (ci := 0) (v := .ref (ad 15)) (C := R_M) (T := F_M) (N := 5) hx hb htb iw_M hown hK hP 0 rfl rfl 2 (by decide) (htb _ mw_163) (fun _ h9 => h9) rfl d_M_order_40 ?_
        refine lv_iload_n hx hb d_M_order_43 rfl (lv_at hl 2 rfl) ?_
        refine rdV (As := [.int (nI j)]) (rest := []) (b := ad 15) ⟨hx, hb, hml, hown, htb⟩ (c_X_isOrdered l D ad kd g z v j (by omega)) (cwV (C := R_X) 1 htb (gV tb_good mw_203 mw_204 mw_205 mw_30 mw_206) rfl rfl rfl (by decide +kernel) ⟨Nat.le_of_ble_eq_true rfl, Nat.le_of_ble_eq_true rfl⟩) hP hK (va_recv hK hP (ci := 3) (q0 := 15) rfl rfl) rfl hl.1 rfl (lv_room (Nat.le_of_ble_eq_true rfl)) d_M_order_44 ⟨Nat.zero_le _, Nat.zero_le _⟩ ?_
        refine lv_if_ne (tgt := 73) hx hb d_M_order_47 (by decide) (fun c4 => ?_) (fun c4 => ?_)
        · replace c4 := bI_t c4
          refine lv_iconst (v := 0) hx hb d_M_order_73 (by decide) ?_
          exact hret _ _ _ _ _ (by simp [ordR, bI, c1, c2, c3, c4]) (by rw [show ordR g z k j h = false by simp [ordR, c1, c2, c3, c4]]; exact hP) hS d_M_order_74
        · replace c4 := bI_f c4
          refine lv_aload_n hx hb d_M_order_50 rfl (lv_at hl 0 rfl) ?_
          refine va_get (D := D) (ci := 0) (v := .ref (ad 15)) (C := R_M) (T := F_M) (N := 5) hx hb htb iw_M hown hK hP 0 rfl rfl 2 (by decide) (htb _ mw_163) (fun _ h9 => h9) rfl d_M_order_51 ?_
          refine lv_iload_n hx hb d_M_order_54 rfl (lv_at hl 2 rfl) ?_
          refine lv_iload_n hx hb d_M_order_55 rfl (lv_at hl 1 rfl) ?_
          refine rdV (As := [.int (nI j), .int (nI k)]) (rest := []) (b := ad 15) ⟨hx, hb, hml, hown, htb⟩ (c_X_isOn l D ad kd g z v j (by omega) (nI k)) (cwV (C := R_X) 2 htb (gV tb_good mw_189 mw_190 mw_191 mw_30 mw_192) rfl rfl rfl (by decide +kernel) ⟨Nat.le_of_ble_eq_true rfl, Nat.le_of_ble_eq_true rfl⟩) hP hK (va_recv hK hP (ci := 3) (q0 := 15) rfl rfl) rfl hl.1 rfl (lv_room (Nat.le_of_ble_eq_true rfl)) d_M_order_56 ⟨Nat.zero_le _, Nat.zero_le _⟩ ?_
          refine lv_if_eq (tgt := 73) hx hb d_M_order_59 (by decide) (fun c5 => ?_) (fun c5 => ?_)
          · replace c5 := bI_f c5
            refine lv_iconst (v := 0) hx hb d_M_order_73 (by decide) ?_
            exact hret _ _ _ _ _ (by simp [ordR, bI, c1, c2, c3, c4, c5]) (by rw [show ordR g z k j h = false by simp [ordR, c1, c2, c3, c4, c5]]; exact hP) hS d_M_order_74
          · replace c5 := bI_t c5
            refine lv_aload_n hx hb d_M_order_62 rfl (lv_at hl 0 rfl) ?_
            refine va_get (D := D) (ci := 0) (v := .ref (ad 15)) (C := R_M) (T := F_M) (N := 5) hx hb htb iw_M hown hK hP 0 rfl rfl 2 (by decide) (htb _ mw_163) (fun _ h9 => h9) rfl d_M_order_63 ?_
            refine lv_iload_n hx hb d_M_order_66 rfl (lv_at hl 2 rfl) ?_
            refine rdV (As := [.int (nI j)]) (rest := []) (b := ad 15) ⟨hx, hb, hml, hown, htb⟩ (c_X_hasLanded l D ad kd g z v j (by omega)) (cwV (C := R_X) 1 htb (gV tb_good mw_215 mw_216 mw_217 mw_30 mw_218) rfl rfl rfl (by decide +kernel) ⟨Nat.le_of_ble_eq_true rfl, Nat.le_of_ble_eq_true rfl⟩) hP hK (va_recv hK hP (ci := 3) (q0 := 15) rfl rfl) rfl hl.1 rfl (lv_room (Nat.le_of_ble_eq_true rfl)) d_M_order_67 ⟨Nat.zero_le _, Nat.zero_le _⟩ ?_
            refine lv_if_ne (tgt := 75) hx hb d_M_order_70 (by decide) (fun c6 => ?_) (fun c6 => ?_)
            · replace c6 := bI_t c6
              refine lv_aload_n hx hb d_M_order_75 rfl (lv_at hl 0 rfl) ?_
              refine va_get (D := D) (ci := 0) (v := .ref (ad 1)) (C := R_M) (T := F_M) (N := 5) hx hb htb iw_M hown hK hP 0 rfl rfl 0 (by decide) (htb _ mw_161) (fun _ h9 => h9) rfl d_M_order_76 ?_
              refine va_get (D := D) (ci := 1) (v := .ref (ad 7)) (C := R_B) (T := F_B) (N := 8) hx hb htb iw_B hown hK hP 1 rfl rfl 6 (by decide) (htb _ mw_68) (fun _ h9 => h9) rfl d_M_order_79 ?_
              refine lv_iload_n hx hb d_M_order_82 rfl (lv_at hl 1 rfl) ?_
              refine q_iald hx hb hK hP 7 5 rfl rfl k (by omega) (by decide) d_M_order_83 ?_
              refine lv_iload_n hx hb d_M_order_84 rfl (lv_at hl 3 rfl) ?_
              refine lv_icmp_eq (tgt := 90) hx hb d_M_order_85 (by decide) (fun c7 => ?_) (fun c7 => ?_)
              · refine lv_aload_n hx hb d_M_order_90 rfl (lv_at hl 0 rfl) ?_
                refine va_get (D := D) (ci := 0) (v := .ref (ad 15)) (C := R_M) (T := F_M) (N := 5) hx hb htb iw_M hown hK hP 0 rfl rfl 2 (by decide) (htb _ mw_163) (fun _ h9 => h9) rfl d_M_order_91 ?_
                refine va_get (D := D) (ci := 3) (v := .ref (ad 21)) (C := R_X) (T := F_X) (N := 9) hx hb htb iw_X hown hK hP 15 rfl rfl 6 (by decide) (htb _ mw_136) (fun _ h9 => h9) rfl d_M_order_94 ?_
                refine lv_iload_n hx hb d_M_order_97 rfl (lv_at hl 2 rfl) ?_
                refine lv_iload_n hx hb d_M_order_98 rfl (lv_at hl 1 rfl) ?_
                refine q_iast hx hb hK hP hD hS 21 17 rfl rfl j (x := (nI k)) (by omega) (by decide) d_M_order_99 (fun H locs hP hD hS => ?_)
                have hP : va_P D classes (wA ad kd (up g 21 j (nI k)) z v) H := hP
                have hD : va_D A (wA ad kd (up g 21 j (nI k)) z v) := hD
                refine lv_aload_n hx hb d_M_order_100 rfl (lv_at hl 0 rfl) ?_
                refine va_get (D := D) (ci := 0) (v := .ref (ad 1)) (C := R_M) (T := F_M) (N := 5) hx hb htb iw_M hown hK hP 0 rfl rfl 0 (by decide) (htb _ mw_161) (fun _ h9 => h9) rfl d_M_order_101 ?_
                refine va_get (D := D) (ci := 1) (v := .ref (ad 8)) (C := R_B) (T := F_B) (N := 8) hx hb htb iw_B hown hK hP 1 rfl rfl 7 (by decide) (htb _ mw_70) (fun _ h9 => h9) rfl d_M_order_104 ?_
                refine lv_iload_n hx hb d_M_order_107 rfl (lv_at hl 1 rfl) ?_
                refine lv_dup2_11 hx hb d_M_order_108 rfl rfl ?_
                refine q_iald hx hb hK hP 8 6 rfl rfl k (by omega) (by decide) d_M_order_109 ?_
                refine lv_iconst (v := 1) hx hb d_M_order_110 (by decide) ?_
                refine lv_iadd hx hb d_M_order_111 ?_
                refine q_iast hx hb hK hP hD hS 8 6 rfl rfl k (x := ((g 8 k) + 1)) (by omega) (by decide) d_M_order_112 (fun H locs hP hD hS => ?_)
                have hP : va_P D classes (wA ad kd (up (up g 21 j (nI k)) 8 k ((g 8 k) + 1)) z v) H := hP
                have hD : va_D A (wA ad kd (up (up g 21 j (nI k)) 8 k ((g 8 k) + 1)) z v) := hD
                refine lv_iconst (v := 1) hx hb d_M_order_113 (by decide) ?_
                exact hret _ _ _ _ _ (by simp [ordR, bI, c1, c2, c3, c4, c5, c6, c7]) (by rw [show ordR g z k j h = true by simp [ordR, c1, c2, c3, c4, c5, c6, c7]]; exact hP) hS d_M_order_114
              · refine lv_iconst (v := 0) hx hb d_M_order_88 (by decide) ?_
                exact hret _ _ _ _ _ (by simp [ordR, bI, c1, c2, c3, c4, c5, c6, c7]) (by rw [show ordR g z k j h = false by simp [ordR, c1, c2, c3, c4, c5, c6, c7]]; exact hP) hS d_M_order_89
            · replace c6 := bI_f c6
              refine lv_iconst (v := 0) hx hb d_M_order_73 (by decide) ?_
              exact hret _ _ _ _ _ (by simp [ordR, bI, c1, c2, c3, c4, c5, c6]) (by rw [show ordR g z k j h = false by simp [ordR, c1, c2, c3, c4, c5, c6]]; exact hP) hS d_M_order_74
      · replace c3 := bI_f c3
        first | (simp [hh, hin, hjn] at c3; done) | (simp [hh, hin, hjn] at c2; done) | (simp [hh, hin, hjn] at c1; done) | (simp at c3; omega) | (exact absurd c3 (by omega)) | (simp at c2; omega) | (exact absurd c2 (by omega)) | (simp at c1; omega) | (exact absurd c1 (by omega))
set_option maxHeartbeats 4000000 in
set_option maxRecDepth 100000 in
theorem c_M_look (l : Launch) (D : va_G) (ad : Nat → Nat) (kd : Nat → ClassId) (g : Nat → Nat → Int32) (z : Nat → Int64) (v : Nat → Int32) (nb : Nat) (hnb : v 2 = nI nb) (hb6 : nb ≤ 60) (nx : Nat) (hnx : v 4 = nI nx) (hx6 : nx ≤ 60) (j : Nat) (hj : j < nb) (k : Nat) (hk : k < 16) : RD l y_M_look (.code y_M_look b_M_look 3 (some .int) :: TB) ({ frames := 4, cells := 0, slots := 0, locals := 89 } : Room) [.ref (ad 0), .int (nI j), .int (nI k)] D classes (wA ad kd g z v) (tA kd) (looS g z nb nx j k) := by
  refine rd_of (by decide +kernel) (rfl) (Nat.le_of_ble_eq_true rfl) ?_
  intro p e s m args below meth c Q ls hx hb hml htb hown hP hK hl hret
  have hl : lv_has ls 3 [(0, .ref (ad 0)), (1, .int (nI j)), (2, .int (nI k))] := hl
  have hin : inN nb (nI j) = true := inN_nI hj (by omega)
  refine lv_aload_n hx hb d_M_look_0 rfl (lv_at hl 0 rfl) ?_
  refine va_get (D := D) (ci := 0) (v := .ref (ad 1)) (C := R_M) (T := F_M) (N := 5) hx hb htb iw_M hown hK hP 0 rfl rfl 0 (by decide) (htb _ mw_161) (fun _ h9 => h9) rfl d_M_look_1 ?_
  refine lv_iload_n hx hb d_M_look_4 rfl (lv_at hl 1 rfl) ?_
  refine rdV (As := [.int (nI j)]) (rest := []) (b := ad 1) ⟨hx, hb, hml, hown, htb⟩ (c_B_has l D ad kd g z v nb hnb hb6 (nI j)) (cwV (C := R_B) 1 htb (gV tb_good mw_185 mw_186 mw_187 mw_28 mw_188) rfl rfl rfl (by decide +kernel) ⟨Nat.le_of_ble_eq_true rfl, Nat.le_of_ble_eq_true rfl⟩) hP hK (va_recv hK hP (ci := 1) (q0 := 1) rfl rfl) rfl hl.1 rfl (lv_room (Nat.le_of_ble_eq_true rfl)) d_M_look_5 ⟨Nat.zero_le _, Nat.zero_le _⟩ ?_
  refine lv_if_ne (tgt := 21) hx hb d_M_look_8 (by decide) (fun c1 => ?_) (fun c1 => ?_)
  · replace c1 := bI_t c1
    refine lv_iload_n hx hb d_M_look_21 rfl (lv_at hl 2 rfl) ?_
    rcases (show k = 0 ∨ k = 1 ∨ k = 2 ∨ k = 3 ∨ k = 4 ∨ k = 5 ∨ k = 6 ∨ k = 7 ∨ k = 8 ∨ k = 9 ∨ k = 10 ∨ k = 11 ∨ k = 12 ∨ k = 13 ∨ k = 14 ∨ k = 15 by omega) with rfl | rfl | rfl | rfl | rfl | rfl | rfl | rfl | rfl | rfl | rfl | rfl | rfl | rfl | rfl | rfl
    · refine lv_tableIn (tgt := 100) hx hb d_M_look_22 (by decide) (by decide) rfl (by decide) ?_
      refine lv_aload_n hx hb d_M_look_100 rfl (lv_at hl 0 rfl) ?_
      refine va_get (D := D) (ci := 0) (v := .ref (ad 1)) (C := R_M) (T := F_M) (N := 5) hx hb htb iw_M hown hK hP 0 rfl rfl 0 (by decide) (htb _ mw_161) (fun _ h9 => h9) rfl d_M_look_101 ?_
      refine va_get (D := D) (ci := 1) (v := .ref (ad 2)) (C := R_B) (T := F_B) (N := 8) hx hb htb iw_B hown hK hP 1 rfl rfl 1 (by decide) (htb _ mw_58) (fun _ h9 => h9) rfl d_M_look_104 ?_
      refine lv_iload_n hx hb d_M_look_107 rfl (lv_at hl 1 rfl) ?_
      refine q_iald hx hb hK hP 2 0 rfl rfl j (by omega) (by decide) d_M_look_108 ?_
      exact hret _ _ _ rfl d_M_look_109
    · refine lv_tableIn (tgt := 110) hx hb d_M_look_22 (by decide) (by decide) rfl (by decide) ?_
      refine lv_aload_n hx hb d_M_look_110 rfl (lv_at hl 0 rfl) ?_
      refine va_get (D := D) (ci := 0) (v := .ref (ad 1)) (C := R_M) (T := F_M) (N := 5) hx hb htb iw_M hown hK hP 0 rfl rfl 0 (by decide) (htb _ mw_161) (fun _ h9 => h9) rfl d_M_look_111 ?_
      refine va_get (D := D) (ci := 1) (v := .ref (ad 3)) (C := R_B) (T := F_B) (N := 8) hx hb htb iw_B hown hK hP 1 rfl rfl 2 (by decide) (htb _ mw_60) (fun _ h9 => h9) rfl d_M_look_114 ?_
      refine lv_iload_n hx hb d_M_look_117 rfl (lv_at hl 1 rfl) ?_
      refine q_iald hx hb hK hP 3 1 rfl rfl j (by omega) (by decide) d_M_look_118 ?_
      exact hret _ _ _ rfl d_M_look_119
    · refine lv_tableIn (tgt := 120) hx hb d_M_look_22 (by decide) (by decide) rfl (by decide) ?_
      refine lv_aload_n hx hb d_M_look_120 rfl (lv_at hl 0 rfl) ?_
      refine va_get (D := D) (ci := 0) (v := .ref (ad 1)) (C := R_M) (T := F_M) (N := 5) hx hb htb iw_M hown hK hP 0 rfl rfl 0 (by decide) (htb _ mw_161) (fun _ h9 => h9) rfl d_M_look_121 ?_
      refine va_get (D := D) (ci := 1) (v := .ref (ad 4)) (C := R_B) (T := F_B) (N := 8) hx hb htb iw_B hown hK hP 1 rfl rfl 3 (by decide) (htb _ mw_62) (fun _ h9 => h9) rfl d_M_look_124 ?_
      refine lv_iload_n hx hb d_M_look_127 rfl (lv_at hl 1 rfl) ?_
      refine q_iald hx hb hK hP 4 2 rfl rfl j (by omega) (by decide) d_M_look_128 ?_
      exact hret _ _ _ rfl d_M_look_129
    · refine lv_tableIn (tgt := 130) hx hb d_M_look_22 (by decide) (by decide) rfl (by decide) ?_
      refine lv_aload_n hx hb d_M_look_130 rfl (lv_at hl 0 rfl) ?_
      refine va_get (D := D) (ci := 0) (v := .ref (ad 1)) (C := R_M) (T := F_M) (N := 5) hx hb htb iw_M hown hK hP 0 rfl rfl 0 (by decide) (htb _ mw_161) (fun _ h9 => h9) rfl d_M_look_131 ?_
      refine va_get (D := D) (ci := 1) (v := .ref (ad 5)) (C := R_B) (T := F_B) (N := 8) hx hb htb iw_B hown hK hP 1 rfl rfl 4 (by decide) (htb _ mw_64) (fun _ h9 => h9) rfl d_M_look_134 ?_
      refine lv_iload_n hx hb d_M_look_137 rfl (lv_at hl 1 rfl) ?_
      refine q_iald hx hb hK hP 5 3 rfl rfl j (by omega) (by decide) d_M_look_138 ?_
      exact hret _ _ _ rfl d_M_look_139
    · refine lv_tableIn (tgt := 140) hx hb d_M_look_22 (by decide) (by decide) rfl (by decide) ?_
      refine lv_aload_n hx hb d_M_look_140 rfl (lv_at hl 0 rfl) ?_
      refine va_get (D := D) (ci := 0) (v := .ref (ad 9)) (C := R_M) (T := F_M) (N := 5) hx hb htb iw_M hown hK hP 0 rfl rfl 1 (by decide) (htb _ mw_162) (fun _ h9 => h9) rfl d_M_look_141 ?_
      refine va_get (D := D) (ci := 2) (v := .ref (ad 12)) (C := R_N) (T := F_N) (N := 6) hx hb htb iw_N hown hK hP 9 rfl rfl 3 (by decide) (htb _ mw_100) (fun _ h9 => h9) rfl d_M_look_144 ?_
      refine lv_iload_n hx hb d_M_look_147 rfl (lv_at hl 1 rfl) ?_
      refine q_iald hx hb hK hP 12 9 rfl rfl j (by omega) (by decide) d_M_look_148 ?_
      exact hret _ _ _ rfl d_M_look_149
    · refine lv_tableIn (tgt := 150) hx hb d_M_look_22 (by decide) (by decide) rfl (by decide) ?_
      refine lv_aload_n hx hb d_M_look_150 rfl (lv_at hl 0 rfl) ?_
      refine va_get (D := D) (ci := 0) (v := .ref (ad 9)) (C := R_M) (T := F_M) (N := 5) hx hb htb iw_M hown hK hP 0 rfl rfl 1 (by decide) (htb _ mw_162) (fun _ h9 => h9) rfl d_M_look_151 ?_
      refine va_get (D := D) (ci := 2) (v := .ref (ad 13)) (C := R_N) (T := F_N) (N := 6) hx hb htb iw_N hown hK hP 9 rfl rfl 4 (by decide) (htb _ mw_102) (fun _ h9 => h9) rfl d_M_look_154 ?_
      refine lv_iload_n hx hb d_M_look_157 rfl (lv_at hl 1 rfl) ?_
      refine q_iald hx hb hK hP 13 10 rfl rfl j (by omega) (by decide) d_M_look_158 ?_
      exact hret _ _ _ rfl d_M_look_159
    · refine lv_tableIn (tgt := 160) hx hb d_M_look_22 (by decide) (by decide) rfl (by decide) ?_
      refine lv_aload_n hx hb d_M_look_160 rfl (lv_at hl 0 rfl) ?_
      refine va_get (D := D) (ci := 0) (v := .ref (ad 9)) (C := R_M) (T := F_M) (N := 5) hx hb htb iw_M hown hK hP 0 rfl rfl 1 (by decide) (htb _ mw_162) (fun _ h9 => h9) rfl d_M_look_161 ?_
      refine va_get (D := D) (ci := 2) (v := .ref (ad 14)) (C := R_N) (T := F_N) (N := 6) hx hb htb iw_N hown hK hP 9 rfl rfl 5 (by decide) (htb _ mw_104) (fun _ h9 => h9) rfl d_M_look_164 ?_
      refine lv_iload_n hx hb d_M_look_167 rfl (lv_at hl 1 rfl) ?_
      refine q_iald hx hb hK hP 14 11 rfl rfl j (by omega) (by decide) d_M_look_168 ?_
      exact hret _ _ _ rfl d_M_look_169
    · refine lv_tableIn (tgt := 170) hx hb d_M_look_22 (by decide) (by decide) rfl (by decide) ?_
      refine lv_aload_n hx hb d_M_look_170 rfl (lv_at hl 0 rfl) ?_
      refine lv_iload_n hx hb d_M_look_171 rfl (lv_at hl 1 rfl) ?_
      refine rdV (As := [.int (nI j)]) (rest := []) (b := ad 0) ⟨hx, hb, hml, hown, htb⟩ (c_M_difference l D ad kd g z v nb hnb hb6 j (by omega)) (cwV (C := R_M) 1 htb (gV tb_good mw_278 mw_280 mw_3 mw_27 mw_281) rfl rfl rfl (by decide +kernel) ⟨Nat.le_of_ble_eq_true rfl, Nat.le_of_ble_eq_true rfl⟩) hP hK (va_recv hK hP (ci := 0) (q0 := 0) rfl rfl) rfl hl.1 rfl (lv_room (Nat.le_of_ble_eq_true rfl)) d_M_look_172 ⟨Nat.zero_le _, Nat.zero_le _⟩ ?_
      exact hret _ _ _ rfl d_M_look_175
    · refine lv_tableIn (tgt := 176) hx hb d_M_look_22 (by decide) (by decide) rfl (by decide) ?_
      refine lv_aload_n hx hb d_M_look_176 rfl (lv_at hl 0 rfl) ?_
      refine va_get (D := D) (ci := 0) (v := .ref (ad 15)) (C := R_M) (T := F_M) (N := 5) hx hb htb iw_M hown hK hP 0 rfl rfl 2 (by decide) (htb _ mw_163) (fun _ h9 => h9) rfl d_M_look_177 ?_
      refine lv_iload_n hx hb d_M_look_180 rfl (lv_at hl 1 rfl) ?_
      refine rdV (As := [.int (nI j)]) (rest := []) (b := ad 15) ⟨hx, hb, hml, hown, htb⟩ (c_X_landedOf l D ad kd g z v nx hnx hx6 (nI j)) (cwV (C := R_X) 1 htb (gV tb_good mw_529 mw_530 mw_531 mw_30 mw_532) rfl rfl rfl (by decide +kernel) ⟨Nat.le_of_ble_eq_true rfl, Nat.le_of_ble_eq_true rfl⟩) hP hK (va_recv hK hP (ci := 3) (q0 := 15) rfl rfl) rfl hl.1 rfl (lv_room (Nat.le_of_ble_eq_true rfl)) d_M_look_181 ⟨Nat.zero_le _, Nat.zero_le _⟩ ?_
      exact hret _ _ _ rfl d_M_look_184
    · refine lv_tableIn (tgt := 185) hx hb d_M_look_22 (by decide) (by decide) rfl (by decide) ?_
      refine lv_aload_n hx hb d_M_look_185 rfl (lv_at hl 0 rfl) ?_
      refine va_get (D := D) (ci := 0) (v := .ref (ad 9)) (C := R_M) (T := F_M) (N := 5) hx hb htb iw_M hown hK hP 0 rfl rfl 1 (by decide) (htb _ mw_162) (fun _ h9 => h9) rfl d_M_look_186 ?_
      refine va_get (D := D) (ci := 2) (v := .ref (ad 13)) (C := R_N) (T := F_N) (N := 6) hx hb htb iw_N hown hK hP 9 rfl rfl 4 (by decide) (htb _ mw_102) (fun _ h9 => h9) rfl d_M_look_189 ?_
      refine lv_iload_n hx hb d_M_look_192 rfl (lv_at hl 1 rfl) ?_
      refine q_iald hx hb hK hP 13 10 rfl rfl j (by omega) (by decide) d_M_look_193 ?_
      refine lv_aload_n hx hb d_M_look_194 rfl (lv_at hl 0 rfl) ?_
      refine va_get (D := D) (ci := 0) (v := .ref (ad 15)) (C := R_M) (T := F_M) (N := 5) hx hb htb iw_M hown hK hP 0 rfl rfl 2 (by decide) (htb _ mw_163) (fun _ h9 => h9) rfl d_M_look_195 ?_
      refine lv_iload_n hx hb d_M_look_198 rfl (lv_at hl 1 rfl) ?_
      refine rdV (As := [.int (nI j)]) (rest := [.int (g 13 j)]) (b := ad 15) ⟨hx, hb, hml, hown, htb⟩ (c_X_landedOf l D ad kd g z v nx hnx hx6 (nI j)) (cwV (C := R_X) 1 htb (gV tb_good mw_529 mw_530 mw_531 mw_30 mw_532) rfl rfl rfl (by decide +kernel) ⟨Nat.le_of_ble_eq_true rfl, Nat.le_of_ble_eq_true rfl⟩) hP hK (va_recv hK hP (ci := 3) (q0 := 15) rfl rfl) rfl hl.1 rfl (lv_room (Nat.le_of_ble_eq_true rfl)) d_M_look_199 ⟨Nat.zero_le _, Nat.zero_le _⟩ ?_
      refine lv_isub hx hb d_M_look_202 ?_
      refine lv_iconst (v := 0) hx hb d_M_look_203 (by decide) ?_
      refine va_mmax hx hb (by rw [hml]; exact hl.1.symm) hown (htb _ mw_539) (htb _ mw_540) (htb _ mw_38) (htb _ mw_541) (Nat.le_of_ble_eq_true rfl) (Nat.le_of_ble_eq_true rfl) (Nat.zero_le _) (Nat.zero_le _) d_M_look_204 ?_
      exact hret _ _ _ rfl d_M_look_207
    · refine lv_tableIn (tgt := 208) hx hb d_M_look_22 (by decide) (by decide) rfl (by decide) ?_
      refine lv_aload_n hx hb d_M_look_208 rfl (lv_at hl 0 rfl) ?_
      refine va_get (D := D) (ci := 0) (v := .ref (ad 15)) (C := R_M) (T := F_M) (N := 5) hx hb htb iw_M hown hK hP 0 rfl rfl 2 (by decide) (htb _ mw_163) (fun _ h9 => h9) rfl d_M_look_209 ?_
      refine lv_iload_n hx hb d_M_look_212 rfl (lv_at hl 1 rfl) ?_
      refine rdV (As := [.int (nI j)]) (rest := []) (b := ad 15) ⟨hx, hb, hml, hown, htb⟩ (c_X_landedOf l D ad kd g z v nx hnx hx6 (nI j)) (cwV (C := R_X) 1 htb (gV tb_good mw_529 mw_530 mw_531 mw_30 mw_532) rfl rfl rfl (by decide +kernel) ⟨Nat.le_of_ble_eq_true rfl, Nat.le_of_ble_eq_true rfl⟩) hP hK (va_recv hK hP (ci := 3) (q0 := 15) rfl rfl) rfl hl.1 rfl (lv_room (Nat.le_of_ble_eq_true rfl)) d_M_look_213 ⟨Nat.zero_le _, Nat.zero_le _⟩ ?_
      refine lv_aload_n hx hb d_M_look_216 rfl (lv_at hl 0 rfl) ?_
      refine va_get (D := D) (ci := 0) (v := .ref (ad 9)) (C := R_M) (T := F_M) (N := 5) hx hb htb iw_M hown hK hP 0 rfl rfl 1 (by decide) (htb _ mw_162) (fun _ h9 => h9) rfl d_M_look_217 ?_
      refine va_get (D := D) (ci := 2) (v := .ref (ad 13)) (C := R_N) (T := F_N) (N := 6) hx hb htb iw_N hown hK hP 9 rfl rfl 4 (by decide) (htb _ mw_102) (fun _ h9 => h9) rfl d_M_look_220 ?_
      refine lv_iload_n hx hb d_M_look_223 rfl (lv_at hl 1 rfl) ?_
      refine q_iald hx hb hK hP 13 10 rfl rfl j (by omega) (by decide) d_M_look_224 ?_
      refine lv_isub hx hb d_M_look_225 ?_
      refine lv_iconst (v := 0) hx hb d_M_look_226 (by decide) ?_
      refine va_mmax hx hb (by rw [hml]; exact hl.1.symm) hown (htb _ mw_539) (htb _ mw_540) (htb _ mw_38) (htb _ mw_541) (Nat.le_of_ble_eq_true rfl) (Nat.le_of_ble_eq_true rfl) (Nat.zero_le _) (Nat.zero_le _) d_M_look_227 ?_
      exact hret _ _ _ rfl d_M_look_230
    · refine lv_tableIn (tgt := 231) hx hb d_M_look_22 (by decide) (by decide) rfl (by decide) ?_
      refine lv_aload_n hx hb d_M_look_231 rfl (lv_at hl 0 rfl) ?_
      refine va_get (D := D) (ci := 0) (v := .ref (ad 1)) (C := R_M) (T := F_M) (N := 5) hx hb htb iw_M hown hK hP 0 rfl rfl 0 (by decide) (htb _ mw_161) (fun _ h9 => h9) rfl d_M_look_232 ?_
      refine va_get (D := D) (ci := 1) (v := .ref (ad 7)) (C := R_B) (T := F_B) (N := 8) hx hb htb iw_B hown hK hP 1 rfl rfl 6 (by decide) (htb _ mw_68) (fun _ h9 => h9) rfl d_M_look_235 ?_
      refine lv_iload_n hx hb d_M_look_238 rfl (lv_at hl 1 rfl) ?_
      refine q_iald hx hb hK hP 7 5 rfl rfl j (by omega) (by decide) d_M_look_239 ?_
      exact hret _ _ _ rfl d_M_look_240
    · refine lv_tableIn (tgt := 241) hx hb d_M_look_22 (by decide) (by decide) rfl (by decide) ?_
      refine lv_aload_n hx hb d_M_look_241 rfl (lv_at hl 0 rfl) ?_
      refine va_get (D := D) (ci := 0) (v := .ref (ad 1)) (C := R_M) (T := F_M) (N := 5) hx hb htb iw_M hown hK hP 0 rfl rfl 0 (by decide) (htb _ mw_161) (fun _ h9 => h9) rfl d_M_look_242 ?_
      refine va_get (D := D) (ci := 1) (v := .ref (ad 8)) (C := R_B) (T := F_B) (N := 8) hx hb htb iw_B hown hK hP 1 rfl rfl 7 (by decide) (htb _ mw_70) (fun _ h9 => h9) rfl d_M_look_245 ?_
      refine lv_iload_n hx hb d_M_look_248 rfl (lv_at hl 1 rfl) ?_
      refine q_iald hx hb hK hP 8 6 rfl rfl j (by omega) (by decide) d_M_look_249 ?_
      exact hret _ _ _ rfl d_M_look_250
    · refine lv_tableIn (tgt := 251) hx hb d_M_look_22 (by decide) (by decide) rfl (by decide) ?_
      refine lv_aload_n hx hb d_M_look_251 rfl (lv_at hl 0 rfl) ?_
      refine va_get (D := D) (ci := 0) (v := .ref (ad 1)) (C := R_M) (T := F_M) (N := 5) hx hb htb iw_M hown hK hP 0 rfl rfl 0 (by decide) (htb _ mw_161) (fun _ h9 => h9) rfl d_M_look_252 ?_
      refine lv_iload_n hx hb d_M_look_255 rfl (lv_at hl 1 rfl) ?_
      refine rdV (As := [.int (nI j)]) (rest := []) (b := ad 1) ⟨hx, hb, hml, hown, htb⟩ (c_B_under l D ad kd g z v nb hnb hb6 (nI j)) (cwV (C := R_B) 1 htb (gV tb_good mw_487 mw_488 mw_489 mw_28 mw_490) rfl rfl rfl (by decide +kernel) ⟨Nat.le_of_ble_eq_true rfl, Nat.le_of_ble_eq_true rfl⟩) hP hK (va_recv hK hP (ci := 1) (q0 := 1) rfl rfl) rfl hl.1 rfl (lv_room (Nat.le_of_ble_eq_true rfl)) d_M_look_256 ⟨Nat.zero_le _, Nat.zero_le _⟩ ?_
      exact hret _ _ _ rfl d_M_look_259
    · refine lv_tableIn (tgt := 260) hx hb d_M_look_22 (by decide) (by decide) rfl (by decide) ?_
      refine lv_aload_n hx hb d_M_look_260 rfl (lv_at hl 0 rfl) ?_
      refine va_get (D := D) (ci := 0) (v := .ref (ad 15)) (C := R_M) (T := F_M) (N := 5) hx hb htb iw_M hown hK hP 0 rfl rfl 2 (by decide) (htb _ mw_163) (fun _ h9 => h9) rfl d_M_look_261 ?_
      refine lv_iload_n hx hb d_M_look_264 rfl (lv_at hl 1 rfl) ?_
      refine rdV (As := [.int (nI j)]) (rest := []) (b := ad 15) ⟨hx, hb, hml, hown, htb⟩ (c_X_boxesOn l D ad kd g z v nx hnx hx6 (nI j)) (cwV (C := R_X) 1 htb (gV tb_good mw_542 mw_543 mw_544 mw_30 mw_545) rfl rfl rfl (by decide +kernel) ⟨Nat.le_of_ble_eq_true rfl, Nat.le_of_ble_eq_true rfl⟩) hP hK (va_recv hK hP (ci := 3) (q0 := 15) rfl rfl) rfl hl.1 rfl (lv_room (Nat.le_of_ble_eq_true rfl)) d_M_look_265 ⟨Nat.zero_le _, Nat.zero_le _⟩ ?_
      exact hret _ _ _ rfl d_M_look_268
    · refine lv_tableIn (tgt := 269) hx hb d_M_look_22 (by decide) (by decide) rfl (by decide) ?_
      refine lv_aload_n hx hb d_M_look_269 rfl (lv_at hl 0 rfl) ?_
      refine va_get (D := D) (ci := 0) (v := .ref (ad 1)) (C := R_M) (T := F_M) (N := 5) hx hb htb iw_M hown hK hP 0 rfl rfl 0 (by decide) (htb _ mw_161) (fun _ h9 => h9) rfl d_M_look_270 ?_
      refine va_get (D := D) (ci := 1) (v := .ref (ad 6)) (C := R_B) (T := F_B) (N := 8) hx hb htb iw_B hown hK hP 1 rfl rfl 5 (by decide) (htb _ mw_66) (fun _ h9 => h9) rfl d_M_look_273 ?_
      refine lv_iload_n hx hb d_M_look_276 rfl (lv_at hl 1 rfl) ?_
      refine q_iald hx hb hK hP 6 4 rfl rfl j (by omega) (by decide) d_M_look_277 ?_
      exact hret _ _ _ rfl d_M_look_278
  · replace c1 := bI_f c1
    first | (simp [hin] at c1; done) | (simp at c1; omega) | (exact absurd c1 (by omega))
