set_option maxHeartbeats 4000000 in
set_option maxRecDepth 100000 in
theorem c_K_on (l : Launch) (D : va_G) (an : Nat → Nat) (kn : Nat → ClassId) (h : Nat → Nat → Int32) (o : Nat → Bool) (u : Nat → Int32) (nb : Nat) (hnb : u 1 = nI nb) (hb6 : nb ≤ 60) (nx : Nat) (hnx : u 2 = nI nx) (hx6 : nx ≤ 60) (x y : Int32) : WRi l y_K_on (.code y_K_on b_K_on 3 (some .boolean) :: TB) ({ frames := 2, cells := 0, slots := 0, locals := 45 } : Room) [.ref (an 0), .int x, .int y] D classes (wK an kn h o u) (wK an kn h (onO h o nb nx x y) (upd u 0 0)) (tK kn) (bI (onK h o nb nx x y)) := by
  refine wr_of (by decide +kernel) (bI_nar _) (Nat.le_of_ble_eq_true rfl) ?_
  intro p e s m args below meth c Q ls A hx hb hml htb hown hP hK hD hS hA hl hret
  have hl : lv_has ls 3 [(0, .ref (an 0)), (1, .int x), (2, .int y)] := hl
  refine lv_aload_n hx hb d_K_on_0 rfl (lv_at hl 0 rfl) ?_
  refine lv_iconst (v := 0) hx hb d_K_on_1 (by decide) ?_
  refine va_put (D := D) (ci := 4) (v := .int 0) (ty := .int) (C := R_K) (T := F_K) (N := 22) hx hb htb iw_K t_K t_K_ok n_K hown hK hP hD hS 0 rfl rfl 0 (by decide) (htb _ mw_596) (fun _ h9 => h9) rfl (by decide +kernel) rfl rfl (Nat.le_of_ble_eq_true rfl) d_K_on_2 (fun H locs hP hD hS => ?_)
  have hP : va_P D classes (wK an kn h o (upd u 0 0)) H := hP
  have hD : va_D A (wK an kn h o (upd u 0 0)) := hD
  refine lv_aload_n hx hb d_K_on_5 rfl (lv_at hl 0 rfl) ?_
  refine lv_iload_n hx hb d_K_on_6 rfl (lv_at hl 1 rfl) ?_
  refine rdV (As := [.int x]) (rest := []) (b := an 0) ⟨hx, hb, hml, hown, htb⟩ (c_K_isBox l D an kn h o (upd u 0 0) nx (show (upd u 0 0) 2 = nI nx from hnx) hx6 x) (cwV (C := R_K) 1 htb (gV tb_good mw_713 mw_715 mw_11 mw_31 mw_716) rfl rfl rfl (by decide +kernel) ⟨Nat.le_of_ble_eq_true rfl, Nat.le_of_ble_eq_true rfl⟩) hP hK (va_recv hK hP (ci := 4) (q0 := 0) rfl rfl) rfl hl.1 rfl (lv_room (Nat.le_of_ble_eq_true rfl)) d_K_on_7 ⟨Nat.zero_le _, Nat.zero_le _⟩ ?_
  refine lv_if_eq (tgt := 63) hx hb d_K_on_10 (by decide) (fun c1 => ?_) (fun c1 => ?_)
  · replace c1 := bI_f c1
    refine lv_iconst (v := 0) hx hb d_K_on_63 (by decide) ?_
    exact hret _ _ _ _ _ (by simp [onK, bI, c1]) (by rw [show onO h o nb nx x y = o by simp [onO, onK, c1]]; exact hP) hS d_K_on_64
  · replace c1 := bI_t c1
    obtain ⟨k, hk, rfl⟩ := inN_ix c1 (by omega)
    have ek : ix (nI k) = k := ix_nI (by omega)
    have mk : ¬ nI k = -1 := nI_nm1 (by omega)
    refine lv_aload_n hx hb d_K_on_13 rfl (lv_at hl 0 rfl) ?_
    refine lv_iload_n hx hb d_K_on_14 rfl (lv_at hl 2 rfl) ?_
    refine rdV (As := [.int y]) (rest := []) (b := an 0) ⟨hx, hb, hml, hown, htb⟩ (c_K_isBill l D an kn h o (upd u 0 0) nb (show (upd u 0 0) 1 = nI nb from hnb) hb6 y) (cwV (C := R_K) 1 htb (gV tb_good mw_680 mw_682 mw_6 mw_31 mw_683) rfl rfl rfl (by decide +kernel) ⟨Nat.le_of_ble_eq_true rfl, Nat.le_of_ble_eq_true rfl⟩) hP hK (va_recv hK hP (ci := 4) (q0 := 0) rfl rfl) rfl hl.1 rfl (lv_room (Nat.le_of_ble_eq_true rfl)) d_K_on_15 ⟨Nat.zero_le _, Nat.zero_le _⟩ ?_
    refine lv_if_eq (tgt := 63) hx hb d_K_on_18 (by decide) (fun c2 => ?_) (fun c2 => ?_)
    · replace c2 := bI_f c2
      refine lv_iconst (v := 0) hx hb d_K_on_63 (by decide) ?_
      exact hret _ _ _ _ _ (by simp [onK, bI, c1, ek, mk, c2]) (by rw [show onO h o nb nx (nI k) y = o by simp [onO, onK, c1, ek, mk, c2]]; exact hP) hS d_K_on_64
    · replace c2 := bI_t c2
      obtain ⟨j, hj, rfl⟩ := inN_ix c2 (by omega)
      have ej : ix (nI j) = j := ix_nI (by omega)
      have mj : ¬ nI j = -1 := nI_nm1 (by omega)
      refine lv_aload_n hx hb d_K_on_21 rfl (lv_at hl 0 rfl) ?_
      refine va_get (D := D) (ci := 4) (v := .ref (an 9)) (C := R_K) (T := F_K) (N := 22) hx hb htb iw_K hown hK hP 0 rfl rfl 15 (by decide) (htb _ mw_611) (fun _ h9 => h9) rfl d_K_on_22 ?_
      refine lv_iload_n hx hb d_K_on_25 rfl (lv_at hl 1 rfl) ?_
      refine q_iald hx hb hK hP 9 8 rfl rfl k (by omega) (by decide) d_K_on_26 ?_
      refine lv_aload_n hx hb d_K_on_27 rfl (lv_at hl 0 rfl) ?_
      refine va_get (D := D) (ci := 4) (v := .ref (an 1)) (C := R_K) (T := F_K) (N := 22) hx hb htb iw_K hown hK hP 0 rfl rfl 7 (by decide) (htb _ mw_603) (fun _ h9 => h9) rfl d_K_on_28 ?_
      refine lv_iload_n hx hb d_K_on_31 rfl (lv_at hl 2 rfl) ?_
      refine q_iald hx hb hK hP 1 0 rfl rfl j (by omega) (by decide) d_K_on_32 ?_
      refine lv_icmp_ne (tgt := 63) hx hb d_K_on_33 (by decide) (fun c3 => ?_) (fun c3 => ?_)
      · refine lv_iconst (v := 0) hx hb d_K_on_63 (by decide) ?_
        exact hret _ _ _ _ _ (by simp [onK, bI, c1, ek, mk, c2, ej, mj, c3]) (by rw [show onO h o nb nx (nI k) (nI j) = o by simp [onO, onK, c1, ek, mk, c2, ej, mj, c3]]; exact hP) hS d_K_on_64
      · refine lv_aload_n hx hb d_K_on_36 rfl (lv_at hl 0 rfl) ?_
        refine lv_iload_n hx hb d_K_on_37 rfl (lv_at hl 1 rfl) ?_
        refine lv_iload_n hx hb d_K_on_38 rfl (lv_at hl 2 rfl) ?_
        refine rdV (As := [.int (nI k), .int (nI j)]) (rest := []) (b := an 0) ⟨hx, hb, hml, hown, htb⟩ (c_K_stands l D an kn h o (upd u 0 0) k j (by omega) (by omega)) (cwV (C := R_K) 2 htb (gV tb_good mw_717 mw_719 mw_12 mw_31 mw_720) rfl rfl rfl (by decide +kernel) ⟨Nat.le_of_ble_eq_true rfl, Nat.le_of_ble_eq_true rfl⟩) hP hK (va_recv hK hP (ci := 4) (q0 := 0) rfl rfl) rfl hl.1 rfl (lv_room (Nat.le_of_ble_eq_true rfl)) d_K_on_39 ⟨Nat.zero_le _, Nat.zero_le _⟩ ?_
        refine lv_if_ne (tgt := 63) hx hb d_K_on_42 (by decide) (fun c4 => ?_) (fun c4 => ?_)
        · replace c4 := bI_t c4
          refine lv_iconst (v := 0) hx hb d_K_on_63 (by decide) ?_
          exact hret _ _ _ _ _ (by simp [onK, bI, c1, ek, mk, c2, ej, mj, c3, c4]) (by rw [show onO h o nb nx (nI k) (nI j) = o by simp [onO, onK, c1, ek, mk, c2, ej, mj, c3, c4]]; exact hP) hS d_K_on_64
        · replace c4 := bI_f c4
          refine lv_aload_n hx hb d_K_on_45 rfl (lv_at hl 0 rfl) ?_
          refine lv_iload_n hx hb d_K_on_46 rfl (lv_at hl 1 rfl) ?_
          refine rdV (As := [.int (nI k)]) (rest := []) (b := an 0) ⟨hx, hb, hml, hown, htb⟩ (c_K_billsOf l D an kn h o (upd u 0 0) nb (show (upd u 0 0) 1 = nI nb from hnb) hb6 k (by omega)) (cwV (C := R_K) 1 htb (gV tb_good mw_721 mw_723 mw_13 mw_31 mw_724) rfl rfl rfl (by decide +kernel) ⟨Nat.le_of_ble_eq_true rfl, Nat.le_of_ble_eq_true rfl⟩) hP hK (va_recv hK hP (ci := 4) (q0 := 0) rfl rfl) rfl hl.1 rfl (lv_room (Nat.le_of_ble_eq_true rfl)) d_K_on_47 ⟨Nat.zero_le _, Nat.zero_le _⟩ ?_
          refine lv_iconst (v := 4) hx hb d_K_on_50 (by decide) ?_
          have hbl := bofR_le o nb k
          refine q_icmp_eq (a := (bofR o nb k)) (b := 4) (tgt := 63) hx hb (by omega) (by omega) d_K_on_51 (by decide) (fun c5 => ?_) (fun c5 => ?_)
          · refine lv_iconst (v := 0) hx hb d_K_on_63 (by decide) ?_
            exact hret _ _ _ _ _ (by simp [onK, bI, c1, ek, mk, c2, ej, mj, c3, c4, c5]) (by rw [show onO h o nb nx (nI k) (nI j) = o by simp [onO, onK, c1, ek, mk, c2, ej, mj, c3, c4, c5]]; exact hP) hS d_K_on_64
          · refine lv_aload_n hx hb d_K_on_54 rfl (lv_at hl 0 rfl) ?_
            refine va_get (D := D) (ci := 4) (v := .ref (an 13)) (C := R_K) (T := F_K) (N := 22) hx hb htb iw_K hown hK hP 0 rfl rfl 19 (by decide) (htb _ mw_615) (fun _ h9 => h9) rfl d_K_on_55 ?_
            refine lv_iload_n hx hb d_K_on_58 rfl (lv_at hl 1 rfl) ?_
            refine q_iald hx hb hK hP 13 12 rfl rfl k (by omega) (by decide) d_K_on_59 ?_
            refine lv_if_lt (tgt := 65) hx hb d_K_on_60 (by decide) (fun c6 => ?_) (fun c6 => ?_)
            · refine lv_aload_n hx hb d_K_on_65 rfl (lv_at hl 0 rfl) ?_
              refine va_get (D := D) (ci := 4) (v := .ref (an 15)) (C := R_K) (T := F_K) (N := 22) hx hb htb iw_K hown hK hP 0 rfl rfl 21 (by decide) (htb _ mw_617) (fun _ h9 => h9) rfl d_K_on_66 ?_
              refine lv_bipush (v := 60) hx hb d_K_on_69 (by decide) ?_
              refine lv_iload_n hx hb d_K_on_71 rfl (lv_at hl 1 rfl) ?_
              refine lv_imul hx hb d_K_on_72 ?_
              refine W.eq (congrArg (fun z => F0 m 73 ls (.int z :: [.ref (an 15)])) (show (60 * (nI k)) = (nI (60 * k)) from pk_mul 60 _)) ?_
              refine lv_iload_n hx hb d_K_on_73 rfl (lv_at hl 2 rfl) ?_
              refine lv_iadd hx hb d_K_on_74 ?_
              refine W.eq (congrArg (fun z => F0 m 75 ls (.int z :: [.ref (an 15)])) (show ((nI (60 * k)) + (nI j)) = (nI ((60 * k) + j)) from nI_add _ _)) ?_
              refine lv_iconst (v := 1) hx hb d_K_on_75 (by decide) ?_
              refine q_zast1 (o := o) hx hb hK hP hD hS 15 14 rfl rfl ((60 * k) + j) (by omega) (by decide) d_K_on_76 (fun H locs hP hD hS => ?_)
              have hP : va_P D classes (wK an kn h (updO o ((60 * k) + j)) (upd u 0 0)) H := hP
              have hD : va_D A (wK an kn h (updO o ((60 * k) + j)) (upd u 0 0)) := hD
              refine lv_iconst (v := 1) hx hb d_K_on_77 (by decide) ?_
              exact hret _ _ _ _ _ (by simp [onK, bI, c1, ek, mk, c2, ej, mj, c3, c4, c5, c6]) (by rw [show onO h o nb nx (nI k) (nI j) = (updO o ((60 * k) + j)) by simp [onO, onK, c1, ek, mk, c2, ej, mj, c3, c4, c5, c6]]; exact hP) hS d_K_on_78
            · refine lv_iconst (v := 0) hx hb d_K_on_63 (by decide) ?_
              exact hret _ _ _ _ _ (by simp [onK, bI, c1, ek, mk, c2, ej, mj, c3, c4, c5, c6]) (by rw [show onO h o nb nx (nI k) (nI j) = o by simp [onO, onK, c1, ek, mk, c2, ej, mj, c3, c4, c5, c6]]; exact hP) hS d_K_on_64
set_option maxHeartbeats 4000000 in
set_option maxRecDepth 100000 in
theorem c_K_land (l : Launch) (D : va_G) (an : Nat → Nat) (kn : Nat → ClassId) (h : Nat → Nat → Int32) (o : Nat → Bool) (u : Nat → Int32) (nx : Nat) (hnx : u 2 = nI nx) (hx6 : nx ≤ 60) (x y : Int32) : WRi l y_K_land (.code y_K_land b_K_land 3 (some .boolean) :: TB) ({ frames := 1, cells := 0, slots := 0, locals := 22 } : Room) [.ref (an 0), .int x, .int y] D classes (wK an kn h o u) (wK an kn (lanH h nx x y) o (upd u 0 0)) (tK kn) (bI (lanK h nx x y)) := by
  refine wr_of (by decide +kernel) (bI_nar _) (Nat.le_of_ble_eq_true rfl) ?_
  intro p e s m args below meth c Q ls A hx hb hml htb hown hP hK hD hS hA hl hret
  have hl : lv_has ls 3 [(0, .ref (an 0)), (1, .int x), (2, .int y)] := hl
  refine lv_aload_n hx hb d_K_land_0 rfl (lv_at hl 0 rfl) ?_
  refine lv_iconst (v := 0) hx hb d_K_land_1 (by decide) ?_
  refine va_put (D := D) (ci := 4) (v := .int 0) (ty := .int) (C := R_K) (T := F_K) (N := 22) hx hb htb iw_K t_K t_K_ok n_K hown hK hP hD hS 0 rfl rfl 0 (by decide) (htb _ mw_596) (fun _ h9 => h9) rfl (by decide +kernel) rfl rfl (Nat.le_of_ble_eq_true rfl) d_K_land_2 (fun H locs hP hD hS => ?_)
  have hP : va_P D classes (wK an kn h o (upd u 0 0)) H := hP
  have hD : va_D A (wK an kn h o (upd u 0 0)) := hD
  refine lv_aload_n hx hb d_K_land_5 rfl (lv_at hl 0 rfl) ?_
  refine lv_iload_n hx hb d_K_land_6 rfl (lv_at hl 1 rfl) ?_
  refine rdV (As := [.int x]) (rest := []) (b := an 0) ⟨hx, hb, hml, hown, htb⟩ (c_K_isBox l D an kn h o (upd u 0 0) nx (show (upd u 0 0) 2 = nI nx from hnx) hx6 x) (cwV (C := R_K) 1 htb (gV tb_good mw_713 mw_715 mw_11 mw_31 mw_716) rfl rfl rfl (by decide +kernel) ⟨Nat.le_of_ble_eq_true rfl, Nat.le_of_ble_eq_true rfl⟩) hP hK (va_recv hK hP (ci := 4) (q0 := 0) rfl rfl) rfl hl.1 rfl (lv_room (Nat.le_of_ble_eq_true rfl)) d_K_land_7 ⟨Nat.zero_le _, Nat.zero_le _⟩ ?_
  refine lv_if_eq (tgt := 32) hx hb d_K_land_10 (by decide) (fun c1 => ?_) (fun c1 => ?_)
  · replace c1 := bI_f c1
    refine lv_iconst (v := 0) hx hb d_K_land_32 (by decide) ?_
    exact hret _ _ _ _ _ (by simp [lanK, bI, c1]) (by rw [show lanH h nx x y = h by simp [lanH, lanK, c1]]; exact hP) hS d_K_land_33
  · replace c1 := bI_t c1
    obtain ⟨k, hk, rfl⟩ := inN_ix c1 (by omega)
    have ek : ix (nI k) = k := ix_nI (by omega)
    have mk : ¬ nI k = -1 := nI_nm1 (by omega)
    refine lv_aload_n hx hb d_K_land_13 rfl (lv_at hl 0 rfl) ?_
    refine va_get (D := D) (ci := 4) (v := .ref (an 12)) (C := R_K) (T := F_K) (N := 22) hx hb htb iw_K hown hK hP 0 rfl rfl 18 (by decide) (htb _ mw_614) (fun _ h9 => h9) rfl d_K_land_14 ?_
    refine lv_iload_n hx hb d_K_land_17 rfl (lv_at hl 1 rfl) ?_
    refine q_iald hx hb hK hP 12 11 rfl rfl k (by omega) (by decide) d_K_land_18 ?_
    refine lv_if_ge (tgt := 32) hx hb d_K_land_19 (by decide) (fun c2 => ?_) (fun c2 => ?_)
    · refine lv_iconst (v := 0) hx hb d_K_land_32 (by decide) ?_
      exact hret _ _ _ _ _ (by simp [lanK, bI, c1, ek, mk, c2]) (by rw [show lanH h nx (nI k) y = h by simp [lanH, lanK, c1, ek, mk, c2]]; exact hP) hS d_K_land_33
    · refine lv_iload_n hx hb d_K_land_22 rfl (lv_at hl 2 rfl) ?_
      refine lv_iconst (v := 0) hx hb d_K_land_23 (by decide) ?_
      refine lv_ldc (v := 1000000) hx hb hown (htb _ mw_696) d_K_land_24 ?_
      refine rdS (As := [.int y, .int 0, .int 1000000]) (rest := []) ⟨hx, hb, hml, hown, htb⟩ (c_K_in l D (wK an kn h o (upd u 0 0)) (tK kn) y 0 1000000) (va_cwS 3 htb (gS tb_good mw_672 mw_673 mw_31 mw_674) rfl rfl rfl (by decide +kernel) ⟨Nat.le_of_ble_eq_true rfl, Nat.le_of_ble_eq_true rfl⟩) hP hK rfl hl.1 rfl (lv_room (Nat.le_of_ble_eq_true rfl)) d_K_land_26 ⟨Nat.zero_le _, Nat.zero_le _⟩ ?_
      refine lv_if_ne (tgt := 34) hx hb d_K_land_29 (by decide) (fun c3 => ?_) (fun c3 => ?_)
      · replace c3 := bI_t c3
        refine lv_aload_n hx hb d_K_land_34 rfl (lv_at hl 0 rfl) ?_
        refine va_get (D := D) (ci := 4) (v := .ref (an 12)) (C := R_K) (T := F_K) (N := 22) hx hb htb iw_K hown hK hP 0 rfl rfl 18 (by decide) (htb _ mw_614) (fun _ h9 => h9) rfl d_K_land_35 ?_
        refine lv_iload_n hx hb d_K_land_38 rfl (lv_at hl 1 rfl) ?_
        refine lv_iload_n hx hb d_K_land_39 rfl (lv_at hl 2 rfl) ?_
        refine q_iast hx hb hK hP hD hS 12 11 rfl rfl k (x := y) (by omega) (by decide) d_K_land_40 (fun H locs hP hD hS => ?_)
        have hP : va_P D classes (wK an kn (up h 12 k y) o (upd u 0 0)) H := hP
        have hD : va_D A (wK an kn (up h 12 k y) o (upd u 0 0)) := hD
        refine lv_iconst (v := 1) hx hb d_K_land_41 (by decide) ?_
        exact hret _ _ _ _ _ (by simp [lanK, bI, c1, ek, mk, c2, c3]) (by rw [show lanH h nx (nI k) y = (up h 12 k y) by simp [lanH, lanK, c1, ek, mk, c2, c3]]; exact hP) hS d_K_land_42
      · replace c3 := bI_f c3
        refine lv_iconst (v := 0) hx hb d_K_land_32 (by decide) ?_
        exact hret _ _ _ _ _ (by simp [lanK, bI, c1, ek, mk, c2, c3]) (by rw [show lanH h nx (nI k) y = h by simp [lanH, lanK, c1, ek, mk, c2, c3]]; exact hP) hS d_K_land_33
set_option maxHeartbeats 4000000 in
set_option maxRecDepth 100000 in
theorem c_K_arrive (l : Launch) (D : va_G) (an : Nat → Nat) (kn : Nat → ClassId) (h : Nat → Nat → Int32) (o : Nat → Bool) (u : Nat → Int32) (x : Int32) : WRi l y_K_arrive (.code y_K_arrive b_K_arrive 2 (some .boolean) :: TB) ({ frames := 1, cells := 0, slots := 0, locals := 22 } : Room) [.ref (an 0), .int x] D classes (wK an kn h o u) (wK an kn h o (arrU u x)) (tK kn) (bI (arrK u x)) := by
  refine wr_of (by decide +kernel) (bI_nar _) (Nat.le_of_ble_eq_true rfl) ?_
  intro p e s m args below meth c Q ls A hx hb hml htb hown hP hK hD hS hA hl hret
  have hl : lv_has ls 2 [(0, .ref (an 0)), (1, .int x)] := hl
  refine lv_aload_n hx hb d_K_arrive_0 rfl (lv_at hl 0 rfl) ?_
  refine lv_iconst (v := 0) hx hb d_K_arrive_1 (by decide) ?_
  refine va_put (D := D) (ci := 4) (v := .int 0) (ty := .int) (C := R_K) (T := F_K) (N := 22) hx hb htb iw_K t_K t_K_ok n_K hown hK hP hD hS 0 rfl rfl 0 (by decide) (htb _ mw_596) (fun _ h9 => h9) rfl (by decide +kernel) rfl rfl (Nat.le_of_ble_eq_true rfl) d_K_arrive_2 (fun H locs hP hD hS => ?_)
  have hP : va_P D classes (wK an kn h o (upd u 0 0)) H := hP
  have hD : va_D A (wK an kn h o (upd u 0 0)) := hD
  refine lv_iload_n hx hb d_K_arrive_5 rfl (lv_at hl 1 rfl) ?_
  refine lv_iconst (v := 0) hx hb d_K_arrive_6 (by decide) ?_
  refine lv_iconst (v := 3) hx hb d_K_arrive_7 (by decide) ?_
  refine rdS (As := [.int x, .int 0, .int 3]) (rest := []) ⟨hx, hb, hml, hown, htb⟩ (c_K_in l D (wK an kn h o (upd u 0 0)) (tK kn) x 0 3) (va_cwS 3 htb (gS tb_good mw_672 mw_673 mw_31 mw_674) rfl rfl rfl (by decide +kernel) ⟨Nat.le_of_ble_eq_true rfl, Nat.le_of_ble_eq_true rfl⟩) hP hK rfl hl.1 rfl (lv_room (Nat.le_of_ble_eq_true rfl)) d_K_arrive_8 ⟨Nat.zero_le _, Nat.zero_le _⟩ ?_
  refine lv_if_eq (tgt := 26) hx hb d_K_arrive_11 (by decide) (fun c1 => ?_) (fun c1 => ?_)
  · replace c1 := bI_f c1
    refine lv_iconst (v := 0) hx hb d_K_arrive_26 (by decide) ?_
    exact hret _ _ _ _ _ (by simp [arrK, bI, c1]) (by rw [show arrU u x = (upd u 0 0) by simp [arrU, arrK, c1]]; exact hP) hS d_K_arrive_27
  · replace c1 := bI_t c1
    refine lv_aload_n hx hb d_K_arrive_14 rfl (lv_at hl 0 rfl) ?_
    refine va_get (D := D) (ci := 4) (v := .int (u 6)) (C := R_K) (T := F_K) (N := 22) hx hb htb iw_K hown hK hP 0 rfl rfl 6 (by decide) (htb _ mw_602) (fun _ h9 => h9) rfl d_K_arrive_15 ?_
    refine lv_iload_n hx hb d_K_arrive_18 rfl (lv_at hl 1 rfl) ?_
    refine lv_ishr hx hb d_K_arrive_19 ?_
    refine lv_iconst (v := 1) hx hb d_K_arrive_20 (by decide) ?_
    refine lv_iand hx hb d_K_arrive_21 ?_
    refine lv_iconst (v := 1) hx hb d_K_arrive_22 (by decide) ?_
    refine lv_icmp_ne (tgt := 28) hx hb d_K_arrive_23 (by decide) (fun c2 => ?_) (fun c2 => ?_)
    · refine lv_aload_n hx hb d_K_arrive_28 rfl (lv_at hl 0 rfl) ?_
      refine lv_dup hx hb d_K_arrive_29 rfl ?_
      refine va_get (D := D) (ci := 4) (v := .int (u 6)) (C := R_K) (T := F_K) (N := 22) hx hb htb iw_K hown hK hP 0 rfl rfl 6 (by decide) (htb _ mw_602) (fun _ h9 => h9) rfl d_K_arrive_30 ?_
      refine lv_iconst (v := 1) hx hb d_K_arrive_33 (by decide) ?_
      refine lv_iload_n hx hb d_K_arrive_34 rfl (lv_at hl 1 rfl) ?_
      refine lv_ishl hx hb d_K_arrive_35 ?_
      refine lv_ior hx hb d_K_arrive_36 ?_
      refine va_put (D := D) (ci := 4) (v := .int ((u 6) ||| ((1 : Int32) <<< (x &&& 31)))) (ty := .int) (C := R_K) (T := F_K) (N := 22) hx hb htb iw_K t_K t_K_ok n_K hown hK hP hD hS 0 rfl rfl 6 (by decide) (htb _ mw_602) (fun _ h9 => h9) rfl (by decide +kernel) rfl rfl (Nat.le_of_ble_eq_true rfl) d_K_arrive_37 (fun H locs hP hD hS => ?_)
      have hP : va_P D classes (wK an kn h o (upd (upd u 0 0) 6 ((u 6) ||| ((1 : Int32) <<< (x &&& 31))))) H := hP
      have hD : va_D A (wK an kn h o (upd (upd u 0 0) 6 ((u 6) ||| ((1 : Int32) <<< (x &&& 31))))) := hD
      refine lv_iconst (v := 1) hx hb d_K_arrive_40 (by decide) ?_
      exact hret _ _ _ _ _ (by simp [arrK, bI, c1, c2]) (by rw [show arrU u x = (upd (upd u 0 0) 6 ((u 6) ||| ((1 : Int32) <<< (x &&& 31)))) by simp [arrU, arrK, c1, c2]]; exact hP) hS d_K_arrive_41
    · refine lv_iconst (v := 0) hx hb d_K_arrive_26 (by decide) ?_
      exact hret _ _ _ _ _ (by simp [arrK, bI, c1, c2]) (by rw [show arrU u x = (upd u 0 0) by simp [arrU, arrK, c1, c2]]; exact hP) hS d_K_arrive_27
set_option maxHeartbeats 4000000 in
set_option maxRecDepth 100000 in
theorem c_K_title (l : Launch) (D : va_G) (an : Nat → Nat) (kn : Nat → ClassId) (h : Nat → Nat → Int32) (o : Nat → Bool) (u : Nat → Int32) (nb : Nat) (hnb : u 1 = nI nb) (hb6 : nb ≤ 60) (k : Nat) (hk : k < nb) (f t : Int32) (hf : inS f 0 9 = true) (ht : inS t 0 9 = true) (hne : ¬ f = t) : WRi l y_K_title (.code y_K_title b_K_title 4 (some .int) :: TB) ({ frames := 2, cells := 0, slots := 0, locals := 42 } : Room) [.ref (an 0), .int (nI k), .int f, .int t] D classes (wK an kn h o u) (wK an kn (if titK h k f = true then up h 4 k t else h) o (upd u 0 0)) (tK kn) (bI (titK h k f)) := by
  refine wr_of (by decide +kernel) (rfl) (Nat.le_of_ble_eq_true rfl) ?_
  intro p e s m args below meth c Q ls A hx hb hml htb hown hP hK hD hS hA hl hret
  have hl : lv_has ls 4 [(0, .ref (an 0)), (1, .int (nI k)), (2, .int f), (3, .int t)] := hl
  have hin : inN nb (nI k) = true := inN_nI hk (by omega)
  refine lv_aload_n hx hb d_K_title_0 rfl (lv_at hl 0 rfl) ?_
  refine lv_aload_n hx hb d_K_title_1 rfl (lv_at hl 0 rfl) ?_
  refine lv_iload_n hx hb d_K_title_2 rfl (lv_at hl 1 rfl) ?_
  refine rdV (As := [.int (nI k)]) (rest := [.ref (an 0)]) (b := an 0) ⟨hx, hb, hml, hown, htb⟩ (c_K_isBill l D an kn h o u nb hnb hb6 (nI k)) (cwV (C := R_K) 1 htb (gV tb_good mw_680 mw_682 mw_6 mw_31 mw_683) rfl rfl rfl (by decide +kernel) ⟨Nat.le_of_ble_eq_true rfl, Nat.le_of_ble_eq_true rfl⟩) hP hK (va_recv hK hP (ci := 4) (q0 := 0) rfl rfl) rfl hl.1 rfl (lv_room (Nat.le_of_ble_eq_true rfl)) d_K_title_3 ⟨Nat.zero_le _, Nat.zero_le _⟩ ?_
  refine lv_if_eq (tgt := 32) hx hb d_K_title_6 (by decide) (fun c1 => ?_) (fun c1 => ?_)
  · replace c1 := bI_f c1
    first | (simp [hin, hf, ht, hne] at c1; done) | (simp at c1; omega) | (exact absurd c1 (by omega))
  · replace c1 := bI_t c1
    refine lv_iload_n hx hb d_K_title_9 rfl (lv_at hl 2 rfl) ?_
    refine rdS (As := [.int f]) (rest := [.ref (an 0)]) ⟨hx, hb, hml, hown, htb⟩ (c_K_isHolder l D (wK an kn h o u) (tK kn) f) (va_cwS 1 htb (gS tb_good mw_745 mw_746 mw_31 mw_747) rfl rfl rfl (by decide +kernel) ⟨Nat.le_of_ble_eq_true rfl, Nat.le_of_ble_eq_true rfl⟩) hP hK rfl hl.1 rfl (lv_room (Nat.le_of_ble_eq_true rfl)) d_K_title_10 ⟨Nat.zero_le _, Nat.zero_le _⟩ ?_
    refine lv_if_eq (tgt := 32) hx hb d_K_title_13 (by decide) (fun c2 => ?_) (fun c2 => ?_)
    · replace c2 := bI_f c2
      first | (simp [hin, hf, ht, hne] at c2; done) | (simp [hin, hf, ht, hne] at c1; done) | (simp at c2; omega) | (exact absurd c2 (by omega)) | (simp at c1; omega) | (exact absurd c1 (by omega))
    · replace c2 := bI_t c2
      refine lv_iload_n hx hb d_K_title_16 rfl (lv_at hl 3 rfl) ?_
      refine rdS (As := [.int t]) (rest := [.ref (an 0)]) ⟨hx, hb, hml, hown, htb⟩ (c_K_isHolder l D (wK an kn h o u) (tK kn) t) (va_cwS 1 htb (gS tb_good mw_745 mw_746 mw_31 mw_747) rfl rfl rfl (by decide +kernel) ⟨Nat.le_of_ble_eq_true rfl, Nat.le_of_ble_eq_true rfl⟩) hP hK rfl hl.1 rfl (lv_room (Nat.le_of_ble_eq_true rfl)) d_K_title_17 ⟨Nat.zero_le _, Nat.zero_le _⟩ ?_
      refine lv_if_eq (tgt := 32) hx hb d_K_title_20 (by decide) (fun c3 => ?_) (fun c3 => ?_)
      · replace c3 := bI_f c3
        first | (simp [hin, hf, ht, hne] at c3; done) | (simp [hin, hf, ht, hne] at c2; done) | (simp [hin, hf, ht, hne] at c1; done) | (simp at c3; omega) | (exact absurd c3 (by omega)) | (simp at c2; omega) | (exact absurd c2 (by omega)) | (simp at c1; omega) | (exact absurd c1 (by omega))
      · replace c3 := bI_t c3
        refine lv_iload_n hx hb d_K_title_23 rfl (lv_at hl 2 rfl) ?_
        refine lv_iload_n hx hb d_K_title_24 rfl (lv_at hl 3 rfl) ?_
        refine lv_icmp_eq (tgt := 32) hx hb d_K_title_25 (by decide) (fun c4 => ?_) (fun c4 => ?_)
        · first | (simp [hin, hf, ht, hne] at c4; done) | (simp [hin, hf, ht, hne] at c3; done) | (simp [hin, hf, ht, hne] at c2; done) | (simp [hin, hf, ht, hne] at c1; done) | (simp at c4; omega) | (exact absurd c4 (by omega)) | (simp at c3; omega) | (exact absurd c3 (by omega)) | (simp at c2; omega) | (exact absurd c2 (by omega)) | (simp at c1; omega) | (exact absurd c1 (by omega))
        · refine lv_iconst (v := 0) hx hb d_K_title_28 (by decide) ?_
          refine lv_goto (tgt := 33) hx hb d_K_title_29 (by decide) ?_
          refine va_put (D := D) (ci := 4) (v := .int 0) (ty := .int) (C := R_K) (T := F_K) (N := 22) hx hb htb iw_K t_K t_K_ok n_K hown hK hP hD hS 0 rfl rfl 0 (by decide) (htb _ mw_596) (fun _ h9 => h9) rfl (by decide +kernel) rfl rfl (Nat.le_of_ble_eq_true rfl) d_K_title_33 (fun H locs hP hD hS => ?_)
          have hP : va_P D classes (wK an kn h o (upd u 0 0)) H := hP
          have hD : va_D A (wK an kn h o (upd u 0 0)) := hD
          refine lv_aload_n hx hb d_K_title_36 rfl (lv_at hl 0 rfl) ?_
          refine va_get (D := D) (ci := 4) (v := .int 0) (C := R_K) (T := F_K) (N := 22) hx hb htb iw_K hown hK hP 0 rfl rfl 0 (by decide) (htb _ mw_596) (fun _ h9 => h9) rfl d_K_title_37 ?_
          refine lv_if_gt (tgt := 62) hx hb d_K_title_40 (by decide) (fun c5 => ?_) (fun c5 => ?_)
          · exact absurd c5 (by decide)
          · refine lv_aload_n hx hb d_K_title_43 rfl (lv_at hl 0 rfl) ?_
            refine va_get (D := D) (ci := 4) (v := .ref (an 4)) (C := R_K) (T := F_K) (N := 22) hx hb htb iw_K hown hK hP 0 rfl rfl 10 (by decide) (htb _ mw_606) (fun _ h9 => h9) rfl d_K_title_44 ?_
            refine lv_iload_n hx hb d_K_title_47 rfl (lv_at hl 1 rfl) ?_
            refine q_iald hx hb hK hP 4 3 rfl rfl k (by omega) (by decide) d_K_title_48 ?_
            refine lv_iload_n hx hb d_K_title_49 rfl (lv_at hl 2 rfl) ?_
            refine lv_icmp_ne (tgt := 62) hx hb d_K_title_50 (by decide) (fun c6 => ?_) (fun c6 => ?_)
            · refine lv_iconst (v := 0) hx hb d_K_title_62 (by decide) ?_
              exact hret _ _ _ _ _ (by simp [titK, bI, c1, c2, c3, c4, c5, c6]) (by rw [show titK h k f = false by simp [titK, c1, c2, c3, c4, c5, c6]]; exact hP) hS d_K_title_63
            · refine lv_aload_n hx hb d_K_title_53 rfl (lv_at hl 0 rfl) ?_
              refine va_get (D := D) (ci := 4) (v := .ref (an 5)) (C := R_K) (T := F_K) (N := 22) hx hb htb iw_K hown hK hP 0 rfl rfl 11 (by decide) (htb _ mw_607) (fun _ h9 => h9) rfl d_K_title_54 ?_
              refine lv_iload_n hx hb d_K_title_57 rfl (lv_at hl 1 rfl) ?_
              refine q_iald hx hb hK hP 5 4 rfl rfl k (by omega) (by decide) d_K_title_58 ?_
              refine lv_if_le (tgt := 64) hx hb d_K_title_59 (by decide) (fun c7 => ?_) (fun c7 => ?_)
              · refine lv_aload_n hx hb d_K_title_64 rfl (lv_at hl 0 rfl) ?_
                refine va_get (D := D) (ci := 4) (v := .ref (an 4)) (C := R_K) (T := F_K) (N := 22) hx hb htb iw_K hown hK hP 0 rfl rfl 10 (by decide) (htb _ mw_606) (fun _ h9 => h9) rfl d_K_title_65 ?_
                refine lv_iload_n hx hb d_K_title_68 rfl (lv_at hl 1 rfl) ?_
                refine lv_iload_n hx hb d_K_title_69 rfl (lv_at hl 3 rfl) ?_
                refine q_iast hx hb hK hP hD hS 4 3 rfl rfl k (x := t) (by omega) (by decide) d_K_title_70 (fun H locs hP hD hS => ?_)
                have hP : va_P D classes (wK an kn (up h 4 k t) o (upd u 0 0)) H := hP
                have hD : va_D A (wK an kn (up h 4 k t) o (upd u 0 0)) := hD
                refine lv_iconst (v := 1) hx hb d_K_title_71 (by decide) ?_
                exact hret _ _ _ _ _ (by simp [titK, bI, c1, c2, c3, c4, c5, c6, c7]) (by rw [show titK h k f = true by simp [titK, c1, c2, c3, c4, c5, c6, c7]]; exact hP) hS d_K_title_72
              · refine lv_iconst (v := 0) hx hb d_K_title_62 (by decide) ?_
                exact hret _ _ _ _ _ (by simp [titK, bI, c1, c2, c3, c4, c5, c6, c7]) (by rw [show titK h k f = false by simp [titK, c1, c2, c3, c4, c5, c6, c7]]; exact hP) hS d_K_title_63
set_option maxHeartbeats 4000000 in
set_option maxRecDepth 100000 in
theorem c_K_order (l : Launch) (D : va_G) (an : Nat → Nat) (kn : Nat → ClassId) (h : Nat → Nat → Int32) (o : Nat → Bool) (u : Nat → Int32) (nb : Nat) (hnb : u 1 = nI nb) (hb6 : nb ≤ 60) (nx : Nat) (hnx : u 2 = nI nx) (hx6 : nx ≤ 60) (k : Nat) (hk : k < nb) (j : Nat) (hj : j < nx) (y : Int32) (hh : inS y 0 9 = true) : WRi l y_K_order (.code y_K_order b_K_order 4 (some .int) :: TB) ({ frames := 2, cells := 0, slots := 0, locals := 42 } : Room) [.ref (an 0), .int (nI k), .int (nI j), .int y] D classes (wK an kn h o u) (wK an kn (if ordK h o k j y = true then up (up h 13 j (nI k)) 5 k (h 5 k + 1) else h) o (if ordK h o k j y = true then upd (upd u 0 0) 5 (u 5 + 1) else upd u 0 0)) (tK kn) (bI (ordK h o k j y)) := by
  refine wr_of (by decide +kernel) (rfl) (Nat.le_of_ble_eq_true rfl) ?_
  intro p e s m args below meth c Q ls A hx hb hml htb hown hP hK hD hS hA hl hret
  have hl : lv_has ls 4 [(0, .ref (an 0)), (1, .int (nI k)), (2, .int (nI j)), (3, .int y)] := hl
  have hin : inN nb (nI k) = true := inN_nI hk (by omega)
  have hjn : inN nx (nI j) = true := inN_nI hj (by omega)
  refine lv_aload_n hx hb d_K_order_0 rfl (lv_at hl 0 rfl) ?_
  refine lv_aload_n hx hb d_K_order_1 rfl (lv_at hl 0 rfl) ?_
  refine lv_iload_n hx hb d_K_order_2 rfl (lv_at hl 1 rfl) ?_
  refine rdV (As := [.int (nI k)]) (rest := [.ref (an 0)]) (b := an 0) ⟨hx, hb, hml, hown, htb⟩ (c_K_isBill l D an kn h o u nb hnb hb6 (nI k)) (cwV (C := R_K) 1 htb (gV tb_good mw_680 mw_682 mw_6 mw_31 mw_683) rfl rfl rfl (by decide +kernel) ⟨Nat.le_of_ble_eq_true rfl, Nat.le_of_ble_eq_true rfl⟩) hP hK (va_recv hK hP (ci := 4) (q0 := 0) rfl rfl) rfl hl.1 rfl (lv_room (Nat.le_of_ble_eq_true rfl)) d_K_order_3 ⟨Nat.zero_le _, Nat.zero_le _⟩ ?_
  refine lv_if_eq (tgt := 28) hx hb d_K_order_6 (by decide) (fun c1 => ?_) (fun c1 => ?_)
  · replace c1 := bI_f c1
    first | (simp [hin, hjn, hh] at c1; done) | (simp at c1; omega) | (exact absurd c1 (by omega))
  · replace c1 := bI_t c1
    refine lv_aload_n hx hb d_K_order_9 rfl (lv_at hl 0 rfl) ?_
    refine lv_iload_n hx hb d_K_order_10 rfl (lv_at hl 2 rfl) ?_
    refine rdV (As := [.int (nI j)]) (rest := [.ref (an 0)]) (b := an 0) ⟨hx, hb, hml, hown, htb⟩ (c_K_isBox l D an kn h o u nx hnx hx6 (nI j)) (cwV (C := R_K) 1 htb (gV tb_good mw_713 mw_715 mw_11 mw_31 mw_716) rfl rfl rfl (by decide +kernel) ⟨Nat.le_of_ble_eq_true rfl, Nat.le_of_ble_eq_true rfl⟩) hP hK (va_recv hK hP (ci := 4) (q0 := 0) rfl rfl) rfl hl.1 rfl (lv_room (Nat.le_of_ble_eq_true rfl)) d_K_order_11 ⟨Nat.zero_le _, Nat.zero_le _⟩ ?_
    refine lv_if_eq (tgt := 28) hx hb d_K_order_14 (by decide) (fun c2 => ?_) (fun c2 => ?_)
    · replace c2 := bI_f c2
      first | (simp [hin, hjn, hh] at c2; done) | (simp [hin, hjn, hh] at c1; done) | (simp at c2; omega) | (exact absurd c2 (by omega)) | (simp at c1; omega) | (exact absurd c1 (by omega))
    · replace c2 := bI_t c2
      refine lv_iload_n hx hb d_K_order_17 rfl (lv_at hl 3 rfl) ?_
      refine rdS (As := [.int y]) (rest := [.ref (an 0)]) ⟨hx, hb, hml, hown, htb⟩ (c_K_isHolder l D (wK an kn h o u) (tK kn) y) (va_cwS 1 htb (gS tb_good mw_745 mw_746 mw_31 mw_747) rfl rfl rfl (by decide +kernel) ⟨Nat.le_of_ble_eq_true rfl, Nat.le_of_ble_eq_true rfl⟩) hP hK rfl hl.1 rfl (lv_room (Nat.le_of_ble_eq_true rfl)) d_K_order_18 ⟨Nat.zero_le _, Nat.zero_le _⟩ ?_
      refine lv_if_eq (tgt := 28) hx hb d_K_order_21 (by decide) (fun c3 => ?_) (fun c3 => ?_)
      · replace c3 := bI_f c3
        first | (simp [hin, hjn, hh] at c3; done) | (simp [hin, hjn, hh] at c2; done) | (simp [hin, hjn, hh] at c1; done) | (simp at c3; omega) | (exact absurd c3 (by omega)) | (simp at c2; omega) | (exact absurd c2 (by omega)) | (simp at c1; omega) | (exact absurd c1 (by omega))
      · replace c3 := bI_t c3
        refine lv_iconst (v := 0) hx hb d_K_order_24 (by decide) ?_
        refine lv_goto (tgt := 29) hx hb d_K_order_25 (by decide) ?_
        refine va_put (D := D) (ci := 4) (v := .int 0) (ty := .int) (C := R_K) (T := F_K) (N := 22) hx hb htb iw_K t_K t_K_ok n_K hown hK hP hD hS 0 rfl rfl 0 (by decide) (htb _ mw_596) (fun _ h9 => h9) rfl (by decide +kernel) rfl rfl (Nat.le_of_ble_eq_true rfl) d_K_order_29 (fun H locs hP hD hS => ?_)
        have hP : va_P D classes (wK an kn h o (upd u 0 0)) H := hP
        have hD : va_D A (wK an kn h o (upd u 0 0)) := hD
        refine lv_aload_n hx hb d_K_order_32 rfl (lv_at hl 0 rfl) ?_
        refine va_get (D := D) (ci := 4) (v := .int 0) (C := R_K) (T := F_K) (N := 22) hx hb htb iw_K hown hK hP 0 rfl rfl 0 (by decide) (htb _ mw_596) (fun _ h9 => h9) rfl d_K_order_33 ?_
        refine lv_if_gt (tgt := 76) hx hb d_K_order_36 (by decide) (fun c4 => ?_) (fun c4 => ?_)
        · exact absurd c4 (by decide)
        · refine lv_aload_n hx hb d_K_order_39 rfl (lv_at hl 0 rfl) ?_
          refine va_get (D := D) (ci := 4) (v := .ref (an 13)) (C := R_K) (T := F_K) (N := 22) hx hb htb iw_K hown hK hP 0 rfl rfl 19 (by decide) (htb _ mw_615) (fun _ h9 => h9) rfl d_K_order_40 ?_
          refine lv_iload_n hx hb d_K_order_43 rfl (lv_at hl 2 rfl) ?_
          refine q_iald hx hb hK hP 13 12 rfl rfl j (by omega) (by decide) d_K_order_44 ?_
          refine lv_if_ge (tgt := 76) hx hb d_K_order_45 (by decide) (fun c5 => ?_) (fun c5 => ?_)
          · refine lv_iconst (v := 0) hx hb d_K_order_76 (by decide) ?_
            exact hret _ _ _ _ _ (by simp [ordK, bI, c1, c2, c3, c4, c5]) (by rw [show ordK h o k j y = false by simp [ordK, c1, c2, c3, c4, c5]]; exact hP) hS d_K_order_77
          · refine lv_aload_n hx hb d_K_order_48 rfl (lv_at hl 0 rfl) ?_
            refine lv_iload_n hx hb d_K_order_49 rfl (lv_at hl 2 rfl) ?_
            refine lv_iload_n hx hb d_K_order_50 rfl (lv_at hl 1 rfl) ?_
            refine rdV (As := [.int (nI j), .int (nI k)]) (rest := []) (b := an 0) ⟨hx, hb, hml, hown, htb⟩ (c_K_stands l D an kn h o (upd u 0 0) j k (by omega) (by omega)) (cwV (C := R_K) 2 htb (gV tb_good mw_717 mw_719 mw_12 mw_31 mw_720) rfl rfl rfl (by decide +kernel) ⟨Nat.le_of_ble_eq_true rfl, Nat.le_of_ble_eq_true rfl⟩) hP hK (va_recv hK hP (ci := 4) (q0 := 0) rfl rfl) rfl hl.1 rfl (lv_room (Nat.le_of_ble_eq_true rfl)) d_K_order_51 ⟨Nat.zero_le _, Nat.zero_le _⟩ ?_
            refine lv_if_eq (tgt := 76) hx hb d_K_order_54 (by decide) (fun c6 => ?_) (fun c6 => ?_)
            · replace c6 := bI_f c6
              refine lv_iconst (v := 0) hx hb d_K_order_76 (by decide) ?_
              exact hret _ _ _ _ _ (by simp [ordK, bI, c1, c2, c3, c4, c5, c6]) (by rw [show ordK h o k j y = false by simp [ordK, c1, c2, c3, c4, c5, c6]]; exact hP) hS d_K_order_77
            · replace c6 := bI_t c6
              refine lv_aload_n hx hb d_K_order_57 rfl (lv_at hl 0 rfl) ?_
              refine va_get (D := D) (ci := 4) (v := .ref (an 12)) (C := R_K) (T := F_K) (N := 22) hx hb htb iw_K hown hK hP 0 rfl rfl 18 (by decide) (htb _ mw_614) (fun _ h9 => h9) rfl d_K_order_58 ?_
              refine lv_iload_n hx hb d_K_order_61 rfl (lv_at hl 2 rfl) ?_
              refine q_iald hx hb hK hP 12 11 rfl rfl j (by omega) (by decide) d_K_order_62 ?_
              refine lv_if_lt (tgt := 76) hx hb d_K_order_63 (by decide) (fun c7 => ?_) (fun c7 => ?_)
              · refine lv_iconst (v := 0) hx hb d_K_order_76 (by decide) ?_
                exact hret _ _ _ _ _ (by simp [ordK, bI, c1, c2, c3, c4, c5, c6, c7]) (by rw [show ordK h o k j y = false by simp [ordK, c1, c2, c3, c4, c5, c6, c7]]; exact hP) hS d_K_order_77
              · refine lv_aload_n hx hb d_K_order_66 rfl (lv_at hl 0 rfl) ?_
                refine va_get (D := D) (ci := 4) (v := .ref (an 4)) (C := R_K) (T := F_K) (N := 22) hx hb htb iw_K hown hK hP 0 rfl rfl 10 (by decide) (htb _ mw_606) (fun _ h9 => h9) rfl d_K_order_67 ?_
                refine lv_iload_n hx hb d_K_order_70 rfl (lv_at hl 1 rfl) ?_
                refine q_iald hx hb hK hP 4 3 rfl rfl k (by omega) (by decide) d_K_order_71 ?_
                refine lv_iload_n hx hb d_K_order_72 rfl (lv_at hl 3 rfl) ?_
                refine lv_icmp_eq (tgt := 78) hx hb d_K_order_73 (by decide) (fun c8 => ?_) (fun c8 => ?_)
                · refine lv_aload_n hx hb d_K_order_78 rfl (lv_at hl 0 rfl) ?_
                  refine va_get (D := D) (ci := 4) (v := .ref (an 13)) (C := R_K) (T := F_K) (N := 22) hx hb htb iw_K hown hK hP 0 rfl rfl 19 (by decide) (htb _ mw_615) (fun _ h9 => h9) rfl d_K_order_79 ?_
                  refine lv_iload_n hx hb d_K_order_82 rfl (lv_at hl 2 rfl) ?_
                  refine lv_iload_n hx hb d_K_order_83 rfl (lv_at hl 1 rfl) ?_
                  refine q_iast hx hb hK hP hD hS 13 12 rfl rfl j (x := (nI k)) (by omega) (by decide) d_K_order_84 (fun H locs hP hD hS => ?_)
                  have hP : va_P D classes (wK an kn (up h 13 j (nI k)) o (upd u 0 0)) H := hP
                  have hD : va_D A (wK an kn (up h 13 j (nI k)) o (upd u 0 0)) := hD
                  refine lv_aload_n hx hb d_K_order_85 rfl (lv_at hl 0 rfl) ?_
                  refine va_get (D := D) (ci := 4) (v := .ref (an 5)) (C := R_K) (T := F_K) (N := 22) hx hb htb iw_K hown hK hP 0 rfl rfl 11 (by decide) (htb _ mw_607) (fun _ h9 => h9) rfl d_K_order_86 ?_
                  refine lv_iload_n hx hb d_K_order_89 rfl (lv_at hl 1 rfl) ?_
                  refine lv_dup2_11 hx hb d_K_order_90 rfl rfl ?_
                  refine q_iald hx hb hK hP 5 4 rfl rfl k (by omega) (by decide) d_K_order_91 ?_
                  refine lv_iconst (v := 1) hx hb d_K_order_92 (by decide) ?_
                  refine lv_iadd hx hb d_K_order_93 ?_
                  refine q_iast hx hb hK hP hD hS 5 4 rfl rfl k (x := ((h 5 k) + 1)) (by omega) (by decide) d_K_order_94 (fun H locs hP hD hS => ?_)
                  have hP : va_P D classes (wK an kn (up (up h 13 j (nI k)) 5 k ((h 5 k) + 1)) o (upd u 0 0)) H := hP
                  have hD : va_D A (wK an kn (up (up h 13 j (nI k)) 5 k ((h 5 k) + 1)) o (upd u 0 0)) := hD
                  refine lv_aload_n hx hb d_K_order_95 rfl (lv_at hl 0 rfl) ?_
                  refine lv_dup hx hb d_K_order_96 rfl ?_
                  refine va_get (D := D) (ci := 4) (v := .int (u 5)) (C := R_K) (T := F_K) (N := 22) hx hb htb iw_K hown hK hP 0 rfl rfl 5 (by decide) (htb _ mw_601) (fun _ h9 => h9) rfl d_K_order_97 ?_
                  refine lv_iconst (v := 1) hx hb d_K_order_100 (by decide) ?_
                  refine lv_iadd hx hb d_K_order_101 ?_
                  refine va_put (D := D) (ci := 4) (v := .int ((u 5) + 1)) (ty := .int) (C := R_K) (T := F_K) (N := 22) hx hb htb iw_K t_K t_K_ok n_K hown hK hP hD hS 0 rfl rfl 5 (by decide) (htb _ mw_601) (fun _ h9 => h9) rfl (by decide +kernel) rfl rfl (Nat.le_of_ble_eq_true rfl) d_K_order_102 (fun H locs hP hD hS => ?_)
                  have hP : va_P D classes (wK an kn (up (up h 13 j (nI k)) 5 k ((h 5 k) + 1)) o (upd (upd u 0 0) 5 ((u 5) + 1))) H := hP
                  have hD : va_D A (wK an kn (up (up h 13 j (nI k)) 5 k ((h 5 k) + 1)) o (upd (upd u 0 0) 5 ((u 5) + 1))) := hD
                  refine lv_iconst (v := 1) hx hb d_K_order_105 (by decide) ?_
                  exact hret _ _ _ _ _ (by simp [ordK, bI, c1, c2, c3, c4, c5, c6, c7, c8]) (by rw [show ordK h o k j y = true by simp [ordK, c1, c2, c3, c4, c5, c6, c7, c8]]; exact hP) hS d_K_order_106
                · refine lv_iconst (v := 0) hx hb d_K_order_76 (by decide) ?_
                  exact hret _ _ _ _ _ (by simp [ordK, bI, c1, c2, c3, c4, c5, c6, c7, c8]) (by rw [show ordK h o k j y = false by simp [ordK, c1, c2, c3, c4, c5, c6, c7, c8]]; exact hP) hS d_K_order_77
set_option maxHeartbeats 4000000 in
set_option maxRecDepth 100000 in
theorem c_K_leg (l : Launch) (D : va_G) (an : Nat → Nat) (kn : Nat → ClassId) (h : Nat → Nat → Int32) (o : Nat → Bool) (u : Nat → Int32) (nx : Nat) (hnx : u 2 = nI nx) (hx6 : nx ≤ 60) (rk : Nat → Nat) (hrk : rkOk h nx rk) (x y : Int32) : WRi l y_K_leg (.code y_K_leg b_K_leg 3 (some .boolean) :: TB) ({ frames := 2, cells := 0, slots := 0, locals := 45 } : Room) [.ref (an 0), .int x, .int y] D classes (wK an kn h o u) (wK an kn (legH h nx x y) o (upd u 0 0)) (tK kn) (bI (legK h nx x y)) := by
  refine wr_of (by decide +kernel) (bI_nar _) (Nat.le_of_ble_eq_true rfl) ?_
  intro p e s m args below meth c Q ls A hx hb hml htb hown hP hK hD hS hA hl hret
  have hl : lv_has ls 3 [(0, .ref (an 0)), (1, .int x), (2, .int y)] := hl
  refine lv_aload_n hx hb d_K_leg_0 rfl (lv_at hl 0 rfl) ?_
  refine lv_iconst (v := 0) hx hb d_K_leg_1 (by decide) ?_
  refine va_put (D := D) (ci := 4) (v := .int 0) (ty := .int) (C := R_K) (T := F_K) (N := 22) hx hb htb iw_K t_K t_K_ok n_K hown hK hP hD hS 0 rfl rfl 0 (by decide) (htb _ mw_596) (fun _ h9 => h9) rfl (by decide +kernel) rfl rfl (Nat.le_of_ble_eq_true rfl) d_K_leg_2 (fun H locs hP hD hS => ?_)
  have hP : va_P D classes (wK an kn h o (upd u 0 0)) H := hP
  have hD : va_D A (wK an kn h o (upd u 0 0)) := hD
  refine lv_aload_n hx hb d_K_leg_5 rfl (lv_at hl 0 rfl) ?_
  refine lv_iload_n hx hb d_K_leg_6 rfl (lv_at hl 1 rfl) ?_
  refine rdV (As := [.int x]) (rest := []) (b := an 0) ⟨hx, hb, hml, hown, htb⟩ (c_K_isBox l D an kn h o (upd u 0 0) nx (show (upd u 0 0) 2 = nI nx from hnx) hx6 x) (cwV (C := R_K) 1 htb (gV tb_good mw_713 mw_715 mw_11 mw_31 mw_716) rfl rfl rfl (by decide +kernel) ⟨Nat.le_of_ble_eq_true rfl, Nat.le_of_ble_eq_true rfl⟩) hP hK (va_recv hK hP (ci := 4) (q0 := 0) rfl rfl) rfl hl.1 rfl (lv_room (Nat.le_of_ble_eq_true rfl)) d_K_leg_7 ⟨Nat.zero_le _, Nat.zero_le _⟩ ?_
  refine lv_if_eq (tgt := 62) hx hb d_K_leg_10 (by decide) (fun c1 => ?_) (fun c1 => ?_)
  · replace c1 := bI_f c1
    refine lv_iconst (v := 0) hx hb d_K_leg_62 (by decide) ?_
    exact hret _ _ _ _ _ (by simp [legK, bI, c1]) (by rw [show legH h nx x y = h by simp [legH, legK, c1]]; exact hP) hS d_K_leg_63
  · replace c1 := bI_t c1
    obtain ⟨k, hk, rfl⟩ := inN_ix c1 (by omega)
    have ek : ix (nI k) = k := ix_nI (by omega)
    have mk : ¬ nI k = -1 := nI_nm1 (by omega)
    refine lv_aload_n hx hb d_K_leg_13 rfl (lv_at hl 0 rfl) ?_
    refine lv_iload_n hx hb d_K_leg_14 rfl (lv_at hl 2 rfl) ?_
    refine rdV (As := [.int y]) (rest := []) (b := an 0) ⟨hx, hb, hml, hown, htb⟩ (c_K_isBox l D an kn h o (upd u 0 0) nx (show (upd u 0 0) 2 = nI nx from hnx) hx6 y) (cwV (C := R_K) 1 htb (gV tb_good mw_713 mw_715 mw_11 mw_31 mw_716) rfl rfl rfl (by decide +kernel) ⟨Nat.le_of_ble_eq_true rfl, Nat.le_of_ble_eq_true rfl⟩) hP hK (va_recv hK hP (ci := 4) (q0 := 0) rfl rfl) rfl hl.1 rfl (lv_room (Nat.le_of_ble_eq_true rfl)) d_K_leg_15 ⟨Nat.zero_le _, Nat.zero_le _⟩ ?_
    refine lv_if_eq (tgt := 62) hx hb d_K_leg_18 (by decide) (fun c2 => ?_) (fun c2 => ?_)
    · replace c2 := bI_f c2
      refine lv_iconst (v := 0) hx hb d_K_leg_62 (by decide) ?_
      exact hret _ _ _ _ _ (by simp [legK, bI, c1, ek, mk, c2]) (by rw [show legH h nx (nI k) y = h by simp [legH, legK, c1, ek, mk, c2]]; exact hP) hS d_K_leg_63
    · replace c2 := bI_t c2
      obtain ⟨j, hj, rfl⟩ := inN_ix c2 (by omega)
      have ej : ix (nI j) = j := ix_nI (by omega)
      have mj : ¬ nI j = -1 := nI_nm1 (by omega)
      refine lv_aload_n hx hb d_K_leg_21 rfl (lv_at hl 0 rfl) ?_
      refine va_get (D := D) (ci := 4) (v := .ref (an 9)) (C := R_K) (T := F_K) (N := 22) hx hb htb iw_K hown hK hP 0 rfl rfl 15 (by decide) (htb _ mw_611) (fun _ h9 => h9) rfl d_K_leg_22 ?_
      refine lv_iload_n hx hb d_K_leg_25 rfl (lv_at hl 1 rfl) ?_
      refine q_iald hx hb hK hP 9 8 rfl rfl k (by omega) (by decide) d_K_leg_26 ?_
      refine lv_aload_n hx hb d_K_leg_27 rfl (lv_at hl 0 rfl) ?_
      refine va_get (D := D) (ci := 4) (v := .ref (an 9)) (C := R_K) (T := F_K) (N := 22) hx hb htb iw_K hown hK hP 0 rfl rfl 15 (by decide) (htb _ mw_611) (fun _ h9 => h9) rfl d_K_leg_28 ?_
      refine lv_iload_n hx hb d_K_leg_31 rfl (lv_at hl 2 rfl) ?_
      refine q_iald hx hb hK hP 9 8 rfl rfl j (by omega) (by decide) d_K_leg_32 ?_
      refine lv_icmp_eq (tgt := 62) hx hb d_K_leg_33 (by decide) (fun c3 => ?_) (fun c3 => ?_)
      · refine lv_iconst (v := 0) hx hb d_K_leg_62 (by decide) ?_
        exact hret _ _ _ _ _ (by simp [legK, bI, c1, ek, mk, c2, ej, mj, c3]) (by rw [show legH h nx (nI k) (nI j) = h by simp [legH, legK, c1, ek, mk, c2, ej, mj, c3]]; exact hP) hS d_K_leg_63
      · refine lv_aload_n hx hb d_K_leg_36 rfl (lv_at hl 0 rfl) ?_
        refine va_get (D := D) (ci := 4) (v := .ref (an 14)) (C := R_K) (T := F_K) (N := 22) hx hb htb iw_K hown hK hP 0 rfl rfl 20 (by decide) (htb _ mw_616) (fun _ h9 => h9) rfl d_K_leg_37 ?_
        refine lv_iload_n hx hb d_K_leg_40 rfl (lv_at hl 1 rfl) ?_
        refine q_iald hx hb hK hP 14 13 rfl rfl k (by omega) (by decide) d_K_leg_41 ?_
        refine lv_if_ge (tgt := 62) hx hb d_K_leg_42 (by decide) (fun c4 => ?_) (fun c4 => ?_)
        · refine lv_iconst (v := 0) hx hb d_K_leg_62 (by decide) ?_
          exact hret _ _ _ _ _ (by simp [legK, bI, c1, ek, mk, c2, ej, mj, c3, c4]) (by rw [show legH h nx (nI k) (nI j) = h by simp [legH, legK, c1, ek, mk, c2, ej, mj, c3, c4]]; exact hP) hS d_K_leg_63
        · refine lv_aload_n hx hb d_K_leg_45 rfl (lv_at hl 0 rfl) ?_
          refine lv_iload_n hx hb d_K_leg_46 rfl (lv_at hl 2 rfl) ?_
          refine rdV (As := [.int (nI j)]) (rest := []) (b := an 0) ⟨hx, hb, hml, hown, htb⟩ (c_K_previousOf l D an kn h o (upd u 0 0) nx (show (upd u 0 0) 2 = nI nx from hnx) hx6 (nI j)) (cwV (C := R_K) 1 htb (gV tb_good mw_769 mw_771 mw_17 mw_31 mw_772) rfl rfl rfl (by decide +kernel) ⟨Nat.le_of_ble_eq_true rfl, Nat.le_of_ble_eq_true rfl⟩) hP hK (va_recv hK hP (ci := 4) (q0 := 0) rfl rfl) rfl hl.1 rfl (lv_room (Nat.le_of_ble_eq_true rfl)) d_K_leg_47 ⟨Nat.zero_le _, Nat.zero_le _⟩ ?_
          refine lv_if_ge (tgt := 62) hx hb d_K_leg_50 (by decide) (fun c5 => ?_) (fun c5 => ?_)
          · refine lv_iconst (v := 0) hx hb d_K_leg_62 (by decide) ?_
            exact hret _ _ _ _ _ (by simp [legK, bI, c1, ek, mk, c2, ej, mj, c3, c4, c5]) (by rw [show legH h nx (nI k) (nI j) = h by simp [legH, legK, c1, ek, mk, c2, ej, mj, c3, c4, c5]]; exact hP) hS d_K_leg_63
          · refine lv_aload_n hx hb d_K_leg_53 rfl (lv_at hl 0 rfl) ?_
            refine lv_iload_n hx hb d_K_leg_54 rfl (lv_at hl 1 rfl) ?_
            refine rdV (As := [.int (nI k)]) (rest := []) (b := an 0) ⟨hx, hb, hml, hown, htb⟩ (c_K_firstOf l D an kn h o (upd u 0 0) nx (show (upd u 0 0) 2 = nI nx from hnx) hx6 rk hrk k (by omega)) (cwV (C := R_K) 1 htb (gV tb_good mw_773 mw_775 mw_18 mw_31 mw_776) rfl rfl rfl (by decide +kernel) ⟨Nat.le_of_ble_eq_true rfl, Nat.le_of_ble_eq_true rfl⟩) hP hK (va_recv hK hP (ci := 4) (q0 := 0) rfl rfl) rfl hl.1 rfl (lv_room (Nat.le_of_ble_eq_true rfl)) d_K_leg_55 ⟨Nat.zero_le _, Nat.zero_le _⟩ ?_
            refine lv_iload_n hx hb d_K_leg_58 rfl (lv_at hl 2 rfl) ?_
            have hfl := firR_lt (h := h) hx6 60 k (by omega)
            refine q_icmp_ne (a := (firR h nx 60 k)) (b := j) (tgt := 64) hx hb (by omega) (by omega) d_K_leg_59 (by decide) (fun c6 => ?_) (fun c6 => ?_)
            · refine lv_aload_n hx hb d_K_leg_64 rfl (lv_at hl 0 rfl) ?_
              refine va_get (D := D) (ci := 4) (v := .ref (an 14)) (C := R_K) (T := F_K) (N := 22) hx hb htb iw_K hown hK hP 0 rfl rfl 20 (by decide) (htb _ mw_616) (fun _ h9 => h9) rfl d_K_leg_65 ?_
              refine lv_iload_n hx hb d_K_leg_68 rfl (lv_at hl 1 rfl) ?_
              refine lv_iload_n hx hb d_K_leg_69 rfl (lv_at hl 2 rfl) ?_
              refine q_iast hx hb hK hP hD hS 14 13 rfl rfl k (x := (nI j)) (by omega) (by decide) d_K_leg_70 (fun H locs hP hD hS => ?_)
              have hP : va_P D classes (wK an kn (up h 14 k (nI j)) o (upd u 0 0)) H := hP
              have hD : va_D A (wK an kn (up h 14 k (nI j)) o (upd u 0 0)) := hD
              refine lv_iconst (v := 1) hx hb d_K_leg_71 (by decide) ?_
              exact hret _ _ _ _ _ (by simp [legK, bI, c1, ek, mk, c2, ej, mj, c3, c4, c5, c6]) (by rw [show legH h nx (nI k) (nI j) = (up h 14 k (nI j)) by simp [legH, legK, c1, ek, mk, c2, ej, mj, c3, c4, c5, c6]]; exact hP) hS d_K_leg_72
            · refine lv_iconst (v := 0) hx hb d_K_leg_62 (by decide) ?_
              exact hret _ _ _ _ _ (by simp [legK, bI, c1, ek, mk, c2, ej, mj, c3, c4, c5, c6]) (by rw [show legH h nx (nI k) (nI j) = h by simp [legH, legK, c1, ek, mk, c2, ej, mj, c3, c4, c5, c6]]; exact hP) hS d_K_leg_63
set_option maxHeartbeats 4000000 in
set_option maxRecDepth 100000 in
theorem c_K_look (l : Launch) (D : va_G) (an : Nat → Nat) (kn : Nat → ClassId) (h : Nat → Nat → Int32) (o : Nat → Bool) (u : Nat → Int32) (nb : Nat) (hnb : u 1 = nI nb) (hb6 : nb ≤ 60) (nx : Nat) (hnx : u 2 = nI nx) (hx6 : nx ≤ 60) (nl : Nat) (hnl : u 3 = nI nl) (hl2 : nl ≤ 200) (hab : abvOk (h 3) nb) (j : Nat) (hj : j < nb) (k : Nat) (hk : k < 16) : WRi l y_K_look (.code y_K_look b_K_look 4 (some .int) :: TB) ({ frames := 3, cells := 0, slots := 0, locals := 70 } : Room) [.ref (an 0), .int (nI j), .int (nI k)] D classes (wK an kn h o u) (wK an kn h o (upd u 0 0)) (tK kn) (looK h o nb nl nx j k) := by
  refine wr_of (by decide +kernel) (rfl) (Nat.le_of_ble_eq_true rfl) ?_
  intro p e s m args below meth c Q ls A hx hb hml htb hown hP hK hD hS hA hl hret
  have hl : lv_has ls 4 [(0, .ref (an 0)), (1, .int (nI j)), (2, .int (nI k))] := hl
  have hin : inN nb (nI j) = true := inN_nI hj (by omega)
  have hwh : inS (nI k) 0 15 = true := inS_nI (b := 15) (by omega)
  refine lv_aload_n hx hb d_K_look_0 rfl (lv_at hl 0 rfl) ?_
  refine lv_aload_n hx hb d_K_look_1 rfl (lv_at hl 0 rfl) ?_
  refine lv_iload_n hx hb d_K_look_2 rfl (lv_at hl 1 rfl) ?_
  refine rdV (As := [.int (nI j)]) (rest := [.ref (an 0)]) (b := an 0) ⟨hx, hb, hml, hown, htb⟩ (c_K_isBill l D an kn h o u nb hnb hb6 (nI j)) (cwV (C := R_K) 1 htb (gV tb_good mw_680 mw_682 mw_6 mw_31 mw_683) rfl rfl rfl (by decide +kernel) ⟨Nat.le_of_ble_eq_true rfl, Nat.le_of_ble_eq_true rfl⟩) hP hK (va_recv hK hP (ci := 4) (q0 := 0) rfl rfl) rfl hl.1 rfl (lv_room (Nat.le_of_ble_eq_true rfl)) d_K_look_3 ⟨Nat.zero_le _, Nat.zero_le _⟩ ?_
  refine lv_if_eq (tgt := 23) hx hb d_K_look_6 (by decide) (fun c1 => ?_) (fun c1 => ?_)
  · replace c1 := bI_f c1
    first | (simp [hin, hwh] at c1; done) | (simp at c1; omega) | (exact absurd c1 (by omega))
  · replace c1 := bI_t c1
    refine lv_iload_n hx hb d_K_look_9 rfl (lv_at hl 2 rfl) ?_
    refine lv_iconst (v := 0) hx hb d_K_look_10 (by decide) ?_
    refine lv_bipush (v := 15) hx hb d_K_look_11 (by decide) ?_
    refine rdS (As := [.int (nI k), .int 0, .int 15]) (rest := [.ref (an 0)]) ⟨hx, hb, hml, hown, htb⟩ (c_K_in l D (wK an kn h o u) (tK kn) (nI k) 0 15) (va_cwS 3 htb (gS tb_good mw_672 mw_673 mw_31 mw_674) rfl rfl rfl (by decide +kernel) ⟨Nat.le_of_ble_eq_true rfl, Nat.le_of_ble_eq_true rfl⟩) hP hK rfl hl.1 rfl (lv_room (Nat.le_of_ble_eq_true rfl)) d_K_look_13 ⟨Nat.zero_le _, Nat.zero_le _⟩ ?_
    refine lv_if_eq (tgt := 23) hx hb d_K_look_16 (by decide) (fun c2 => ?_) (fun c2 => ?_)
    · replace c2 := bI_f c2
      first | (simp [hin, hwh] at c2; done) | (simp [hin, hwh] at c1; done) | (simp at c2; omega) | (exact absurd c2 (by omega)) | (simp at c1; omega) | (exact absurd c1 (by omega))
    · replace c2 := bI_t c2
      refine lv_iconst (v := 0) hx hb d_K_look_19 (by decide) ?_
      refine lv_goto (tgt := 24) hx hb d_K_look_20 (by decide) ?_
      refine va_put (D := D) (ci := 4) (v := .int 0) (ty := .int) (C := R_K) (T := F_K) (N := 22) hx hb htb iw_K t_K t_K_ok n_K hown hK hP hD hS 0 rfl rfl 0 (by decide) (htb _ mw_596) (fun _ h9 => h9) rfl (by decide +kernel) rfl rfl (Nat.le_of_ble_eq_true rfl) d_K_look_24 (fun H locs hP hD hS => ?_)
      have hP : va_P D classes (wK an kn h o (upd u 0 0)) H := hP
      have hD : va_D A (wK an kn h o (upd u 0 0)) := hD
      refine lv_aload_n hx hb d_K_look_27 rfl (lv_at hl 0 rfl) ?_
      refine va_get (D := D) (ci := 4) (v := .int 0) (C := R_K) (T := F_K) (N := 22) hx hb htb iw_K hown hK hP 0 rfl rfl 0 (by decide) (htb _ mw_596) (fun _ h9 => h9) rfl d_K_look_28 ?_
      refine lv_if_le (tgt := 36) hx hb d_K_look_31 (by decide) (fun c3 => ?_) (fun c3 => ?_)
      · refine lv_aload_n hx hb d_K_look_36 rfl (lv_at hl 0 rfl) ?_
        refine lv_iload_n hx hb d_K_look_37 rfl (lv_at hl 1 rfl) ?_
        refine rdV (As := [.int (nI j)]) (rest := []) (b := an 0) ⟨hx, hb, hml, hown, htb⟩ (c_K_weightOf l D an kn h o (upd u 0 0) nl (show (upd u 0 0) 3 = nI nl from hnl) hl2 (nI j)) (cwV (C := R_K) 1 htb (gV tb_good mw_756 mw_758 mw_15 mw_31 mw_759) rfl rfl rfl (by decide +kernel) ⟨Nat.le_of_ble_eq_true rfl, Nat.le_of_ble_eq_true rfl⟩) hP hK (va_recv hK hP (ci := 4) (q0 := 0) rfl rfl) rfl hl.1 rfl (lv_room (Nat.le_of_ble_eq_true rfl)) d_K_look_38 ⟨Nat.zero_le _, Nat.zero_le _⟩ ?_
        refine lv_aload_n hx hb d_K_look_41 rfl (lv_at hl 0 rfl) ?_
        refine lv_iload_n hx hb d_K_look_42 rfl (lv_at hl 1 rfl) ?_
        refine rdV (As := [.int (nI j)]) (rest := [.int (wofR h nl (nI j))]) (b := an 0) ⟨hx, hb, hml, hown, htb⟩ (c_K_landedWeight l D an kn h o (upd u 0 0) nb (show (upd u 0 0) 1 = nI nb from hnb) hb6 nx (show (upd u 0 0) 2 = nI nx from hnx) hx6 j (by omega)) (cwV (C := R_K) 1 htb (gV tb_good mw_781 mw_783 mw_19 mw_31 mw_784) rfl rfl rfl (by decide +kernel) ⟨Nat.le_of_ble_eq_true rfl, Nat.le_of_ble_eq_true rfl⟩) hP hK (va_recv hK hP (ci := 4) (q0 := 0) rfl rfl) rfl hl.1 rfl (lv_room (Nat.le_of_ble_eq_true rfl)) d_K_look_43 ⟨Nat.zero_le _, Nat.zero_le _⟩ ?_
        refine lv_isub hx hb d_K_look_46 ?_
        refine lv_istore_n (lv' := [(3, .int ((wofR h nl (nI j)) - (lwtR h o nb nx j))), (0, .ref (an 0)), (1, .int (nI j)), (2, .int (nI k))]) hx hb d_K_look_47 rfl hl (by decide) rfl (fun ls hl => ?_)
        refine lv_iload_n hx hb d_K_look_48 rfl (lv_at hl 3 rfl) ?_
        rcases (show k = 0 ∨ k = 1 ∨ k = 2 ∨ k = 3 ∨ k = 4 ∨ k = 5 ∨ k = 6 ∨ k = 7 ∨ k = 8 ∨ k = 9 ∨ k = 10 ∨ k = 11 ∨ k = 12 ∨ k = 13 ∨ k = 14 ∨ k = 15 by omega) with rfl | rfl | rfl | rfl | rfl | rfl | rfl | rfl | rfl | rfl | rfl | rfl | rfl | rfl | rfl | rfl
        · refine lv_tableIn (tgt := 124) hx hb d_K_look_49 (by decide) (by decide) rfl (by decide) ?_
          refine lv_aload_n hx hb d_K_look_124 rfl (lv_at hl 1 rfl) ?_
          refine va_get (D := D) (ci := 4) (v := .ref (an 1)) (C := R_K) (T := F_K) (N := 22) hx hb htb iw_K hown hK hP 0 rfl rfl 7 (by decide) (htb _ mw_603) (fun _ h9 => h9) rfl d_K_look_125 ?_
          refine lv_iload_n hx hb d_K_look_128 rfl (lv_at hl 2 rfl) ?_
          refine q_iald hx hb hK hP 1 0 rfl rfl j (by omega) (by decide) d_K_look_129 ?_
          exact hret _ _ _ _ _ rfl hP hS d_K_look_130
        · refine lv_tableIn (tgt := 131) hx hb d_K_look_49 (by decide) (by decide) rfl (by decide) ?_
          refine lv_aload_n hx hb d_K_look_131 rfl (lv_at hl 1 rfl) ?_
          refine va_get (D := D) (ci := 4) (v := .ref (an 2)) (C := R_K) (T := F_K) (N := 22) hx hb htb iw_K hown hK hP 0 rfl rfl 8 (by decide) (htb _ mw_604) (fun _ h9 => h9) rfl d_K_look_132 ?_
          refine lv_iload_n hx hb d_K_look_135 rfl (lv_at hl 2 rfl) ?_
          refine q_iald hx hb hK hP 2 1 rfl rfl j (by omega) (by decide) d_K_look_136 ?_
          exact hret _ _ _ _ _ rfl hP hS d_K_look_137
        · refine lv_tableIn (tgt := 138) hx hb d_K_look_49 (by decide) (by decide) rfl (by decide) ?_
          refine lv_aload_n hx hb d_K_look_138 rfl (lv_at hl 1 rfl) ?_
          refine va_get (D := D) (ci := 4) (v := .ref (an 3)) (C := R_K) (T := F_K) (N := 22) hx hb htb iw_K hown hK hP 0 rfl rfl 9 (by decide) (htb _ mw_605) (fun _ h9 => h9) rfl d_K_look_139 ?_
          refine lv_iload_n hx hb d_K_look_142 rfl (lv_at hl 2 rfl) ?_
          refine q_iald hx hb hK hP 3 2 rfl rfl j (by omega) (by decide) d_K_look_143 ?_
          exact hret _ _ _ _ _ rfl hP hS d_K_look_144
        · refine lv_tableIn (tgt := 145) hx hb d_K_look_49 (by decide) (by decide) rfl (by decide) ?_
          refine lv_aload_n hx hb d_K_look_145 rfl (lv_at hl 1 rfl) ?_
          refine lv_iload_n hx hb d_K_look_146 rfl (lv_at hl 2 rfl) ?_
          refine rdV (As := [.int (nI j)]) (rest := []) (b := an 0) ⟨hx, hb, hml, hown, htb⟩ (c_K_depthOf l D an kn h o (upd u 0 0) nb (show (upd u 0 0) 1 = nI nb from hnb) hb6 hab j (by omega)) (cwV (C := R_K) 1 htb (gV tb_good mw_684 mw_686 mw_7 mw_31 mw_687) rfl rfl rfl (by decide +kernel) ⟨Nat.le_of_ble_eq_true rfl, Nat.le_of_ble_eq_true rfl⟩) hP hK (va_recv hK hP (ci := 4) (q0 := 0) rfl rfl) rfl hl.1 rfl (lv_room (Nat.le_of_ble_eq_true rfl)) d_K_look_147 ⟨Nat.zero_le _, Nat.zero_le _⟩ ?_
          exact hret _ _ _ _ _ rfl hP hS d_K_look_150
        · refine lv_tableIn (tgt := 151) hx hb d_K_look_49 (by decide) (by decide) rfl (by decide) ?_
          refine lv_aload_n hx hb d_K_look_151 rfl (lv_at hl 1 rfl) ?_
          refine lv_iload_n hx hb d_K_look_152 rfl (lv_at hl 2 rfl) ?_
          refine rdV (As := [.int (nI j)]) (rest := []) (b := an 0) ⟨hx, hb, hml, hown, htb⟩ (c_K_linesOf l D an kn h o (upd u 0 0) nl (show (upd u 0 0) 3 = nI nl from hnl) hl2 (nI j)) (cwV (C := R_K) 1 htb (gV tb_good mw_701 mw_703 mw_10 mw_31 mw_704) rfl rfl rfl (by decide +kernel) ⟨Nat.le_of_ble_eq_true rfl, Nat.le_of_ble_eq_true rfl⟩) hP hK (va_recv hK hP (ci := 4) (q0 := 0) rfl rfl) rfl hl.1 rfl (lv_room (Nat.le_of_ble_eq_true rfl)) d_K_look_153 ⟨Nat.zero_le _, Nat.zero_le _⟩ ?_
          exact hret _ _ _ _ _ rfl hP hS d_K_look_156
        · refine lv_tableIn (tgt := 157) hx hb d_K_look_49 (by decide) (by decide) rfl (by decide) ?_
          refine lv_aload_n hx hb d_K_look_157 rfl (lv_at hl 1 rfl) ?_
          refine lv_iload_n hx hb d_K_look_158 rfl (lv_at hl 2 rfl) ?_
          refine rdV (As := [.int (nI j)]) (rest := []) (b := an 0) ⟨hx, hb, hml, hown, htb⟩ (c_K_weightOf l D an kn h o (upd u 0 0) nl (show (upd u 0 0) 3 = nI nl from hnl) hl2 (nI j)) (cwV (C := R_K) 1 htb (gV tb_good mw_756 mw_758 mw_15 mw_31 mw_759) rfl rfl rfl (by decide +kernel) ⟨Nat.le_of_ble_eq_true rfl, Nat.le_of_ble_eq_true rfl⟩) hP hK (va_recv hK hP (ci := 4) (q0 := 0) rfl rfl) rfl hl.1 rfl (lv_room (Nat.le_of_ble_eq_true rfl)) d_K_look_159 ⟨Nat.zero_le _, Nat.zero_le _⟩ ?_
          exact hret _ _ _ _ _ rfl hP hS d_K_look_162
        · refine lv_tableIn (tgt := 163) hx hb d_K_look_49 (by decide) (by decide) rfl (by decide) ?_
          refine lv_aload_n hx hb d_K_look_163 rfl (lv_at hl 1 rfl) ?_
          refine lv_iload_n hx hb d_K_look_164 rfl (lv_at hl 2 rfl) ?_
          refine rdV (As := [.int (nI j)]) (rest := []) (b := an 0) ⟨hx, hb, hml, hown, htb⟩ (c_K_piecesOf l D an kn h o (upd u 0 0) nl (show (upd u 0 0) 3 = nI nl from hnl) hl2 (nI j)) (cwV (C := R_K) 1 htb (gV tb_good mw_785 mw_787 mw_20 mw_31 mw_788) rfl rfl rfl (by decide +kernel) ⟨Nat.le_of_ble_eq_true rfl, Nat.le_of_ble_eq_true rfl⟩) hP hK (va_recv hK hP (ci := 4) (q0 := 0) rfl rfl) rfl hl.1 rfl (lv_room (Nat.le_of_ble_eq_true rfl)) d_K_look_165 ⟨Nat.zero_le _, Nat.zero_le _⟩ ?_
          exact hret _ _ _ _ _ rfl hP hS d_K_look_168
        · refine lv_tableIn (tgt := 169) hx hb d_K_look_49 (by decide) (by decide) rfl (by decide) ?_
          refine lv_aload_n hx hb d_K_look_169 rfl (lv_at hl 1 rfl) ?_
          refine lv_iload_n hx hb d_K_look_170 rfl (lv_at hl 2 rfl) ?_
          refine rdV (As := [.int (nI j)]) (rest := []) (b := an 0) ⟨hx, hb, hml, hown, htb⟩ (c_K_differs l D an kn h o (upd u 0 0) nb (show (upd u 0 0) 1 = nI nb from hnb) hb6 nl (show (upd u 0 0) 3 = nI nl from hnl) hl2 (nI j)) (cwV (C := R_K) 1 htb (gV tb_good mw_789 mw_791 mw_21 mw_31 mw_792) rfl rfl rfl (by decide +kernel) ⟨Nat.le_of_ble_eq_true rfl, Nat.le_of_ble_eq_true rfl⟩) hP hK (va_recv hK hP (ci := 4) (q0 := 0) rfl rfl) rfl hl.1 rfl (lv_room (Nat.le_of_ble_eq_true rfl)) d_K_look_171 ⟨Nat.zero_le _, Nat.zero_le _⟩ ?_
          exact hret _ _ _ _ _ rfl hP hS d_K_look_174
        · refine lv_tableIn (tgt := 175) hx hb d_K_look_49 (by decide) (by decide) rfl (by decide) ?_
          refine lv_aload_n hx hb d_K_look_175 rfl (lv_at hl 1 rfl) ?_
          refine lv_iload_n hx hb d_K_look_176 rfl (lv_at hl 2 rfl) ?_
          refine rdV (As := [.int (nI j)]) (rest := []) (b := an 0) ⟨hx, hb, hml, hown, htb⟩ (c_K_landedWeight l D an kn h o (upd u 0 0) nb (show (upd u 0 0) 1 = nI nb from hnb) hb6 nx (show (upd u 0 0) 2 = nI nx from hnx) hx6 j (by omega)) (cwV (C := R_K) 1 htb (gV tb_good mw_781 mw_783 mw_19 mw_31 mw_784) rfl rfl rfl (by decide +kernel) ⟨Nat.le_of_ble_eq_true rfl, Nat.le_of_ble_eq_true rfl⟩) hP hK (va_recv hK hP (ci := 4) (q0 := 0) rfl rfl) rfl hl.1 rfl (lv_room (Nat.le_of_ble_eq_true rfl)) d_K_look_177 ⟨Nat.zero_le _, Nat.zero_le _⟩ ?_
          exact hret _ _ _ _ _ rfl hP hS d_K_look_180
        · refine lv_tableIn (tgt := 181) hx hb d_K_look_49 (by decide) (by decide) rfl (by decide) ?_
          refine lv_iload_n hx hb d_K_look_181 rfl (lv_at hl 0 rfl) ?_
          refine lv_if_le (tgt := 189) hx hb d_K_look_182 (by decide) (fun c4 => ?_) (fun c4 => ?_)
          · refine lv_iconst (v := 0) hx hb d_K_look_189 (by decide) ?_
            exact hret _ _ _ _ _ (by show _ = (if _ then _ else _); rw [if_pos c4]) hP hS d_K_look_190
          · refine lv_iload_n hx hb d_K_look_185 rfl (lv_at hl 0 rfl) ?_
            refine lv_goto (tgt := 190) hx hb d_K_look_186 (by decide) ?_
            exact hret _ _ _ _ _ (by show _ = (if _ then _ else _); rw [if_neg c4]) hP hS d_K_look_190
        · refine lv_tableIn (tgt := 191) hx hb d_K_look_49 (by decide) (by decide) rfl (by decide) ?_
          refine lv_iload_n hx hb d_K_look_191 rfl (lv_at hl 0 rfl) ?_
          refine lv_if_ge (tgt := 200) hx hb d_K_look_192 (by decide) (fun c5 => ?_) (fun c5 => ?_)
          · refine lv_iconst (v := 0) hx hb d_K_look_200 (by decide) ?_
            exact hret _ _ _ _ _ (by show _ = (if _ then _ else _); rw [if_pos c5]) hP hS d_K_look_201
          · refine lv_iload_n hx hb d_K_look_195 rfl (lv_at hl 0 rfl) ?_
            refine lv_ineg hx hb d_K_look_196 ?_
            refine lv_goto (tgt := 201) hx hb d_K_look_197 (by decide) ?_
            exact hret _ _ _ _ _ (by show _ = (if _ then _ else _); rw [if_neg c5]) hP hS d_K_look_201
        · refine lv_tableIn (tgt := 202) hx hb d_K_look_49 (by decide) (by decide) rfl (by decide) ?_
          refine lv_aload_n hx hb d_K_look_202 rfl (lv_at hl 1 rfl) ?_
          refine va_get (D := D) (ci := 4) (v := .ref (an 4)) (C := R_K) (T := F_K) (N := 22) hx hb htb iw_K hown hK hP 0 rfl rfl 10 (by decide) (htb _ mw_606) (fun _ h9 => h9) rfl d_K_look_203 ?_
          refine lv_iload_n hx hb d_K_look_206 rfl (lv_at hl 2 rfl) ?_
          refine q_iald hx hb hK hP 4 3 rfl rfl j (by omega) (by decide) d_K_look_207 ?_
          exact hret _ _ _ _ _ rfl hP hS d_K_look_208
        · refine lv_tableIn (tgt := 209) hx hb d_K_look_49 (by decide) (by decide) rfl (by decide) ?_
          refine lv_aload_n hx hb d_K_look_209 rfl (lv_at hl 1 rfl) ?_
          refine va_get (D := D) (ci := 4) (v := .ref (an 5)) (C := R_K) (T := F_K) (N := 22) hx hb htb iw_K hown hK hP 0 rfl rfl 11 (by decide) (htb _ mw_607) (fun _ h9 => h9) rfl d_K_look_210 ?_
          refine lv_iload_n hx hb d_K_look_213 rfl (lv_at hl 2 rfl) ?_
          refine q_iald hx hb hK hP 5 4 rfl rfl j (by omega) (by decide) d_K_look_214 ?_
          exact hret _ _ _ _ _ rfl hP hS d_K_look_215
        · refine lv_tableIn (tgt := 216) hx hb d_K_look_49 (by decide) (by decide) rfl (by decide) ?_
          refine lv_aload_n hx hb d_K_look_216 rfl (lv_at hl 1 rfl) ?_
          refine lv_iload_n hx hb d_K_look_217 rfl (lv_at hl 2 rfl) ?_
          refine rdV (As := [.int (nI j)]) (rest := []) (b := an 0) ⟨hx, hb, hml, hown, htb⟩ (c_K_belowOf l D an kn h o (upd u 0 0) nb (show (upd u 0 0) 1 = nI nb from hnb) hb6 (nI j)) (cwV (C := R_K) 1 htb (gV tb_good mw_760 mw_762 mw_16 mw_31 mw_763) rfl rfl rfl (by decide +kernel) ⟨Nat.le_of_ble_eq_true rfl, Nat.le_of_ble_eq_true rfl⟩) hP hK (va_recv hK hP (ci := 4) (q0 := 0) rfl rfl) rfl hl.1 rfl (lv_room (Nat.le_of_ble_eq_true rfl)) d_K_look_218 ⟨Nat.zero_le _, Nat.zero_le _⟩ ?_
          exact hret _ _ _ _ _ rfl hP hS d_K_look_221
        · refine lv_tableIn (tgt := 222) hx hb d_K_look_49 (by decide) (by decide) rfl (by decide) ?_
          refine lv_aload_n hx hb d_K_look_222 rfl (lv_at hl 1 rfl) ?_
          refine lv_iload_n hx hb d_K_look_223 rfl (lv_at hl 2 rfl) ?_
          refine rdV (As := [.int (nI j)]) (rest := []) (b := an 0) ⟨hx, hb, hml, hown, htb⟩ (c_K_boxesOf l D an kn h o (upd u 0 0) nx (show (upd u 0 0) 2 = nI nx from hnx) hx6 j (by omega)) (cwV (C := R_K) 1 htb (gV tb_good mw_793 mw_795 mw_22 mw_31 mw_796) rfl rfl rfl (by decide +kernel) ⟨Nat.le_of_ble_eq_true rfl, Nat.le_of_ble_eq_true rfl⟩) hP hK (va_recv hK hP (ci := 4) (q0 := 0) rfl rfl) rfl hl.1 rfl (lv_room (Nat.le_of_ble_eq_true rfl)) d_K_look_224 ⟨Nat.zero_le _, Nat.zero_le _⟩ ?_
          exact hret _ _ _ _ _ rfl hP hS d_K_look_227
        · refine lv_tableOut (tgt := 228) hx hb d_K_look_49 (by decide) (by decide) ?_
          refine lv_aload_n hx hb d_K_look_228 rfl (lv_at hl 1 rfl) ?_
          refine lv_iload_n hx hb d_K_look_229 rfl (lv_at hl 2 rfl) ?_
          refine rdV (As := [.int (nI j)]) (rest := []) (b := an 0) ⟨hx, hb, hml, hown, htb⟩ (c_K_masterOf l D an kn h o (upd u 0 0) nb (show (upd u 0 0) 1 = nI nb from hnb) hb6 hab j (by omega)) (cwV (C := R_K) 1 htb (gV tb_good mw_797 mw_799 mw_23 mw_31 mw_800) rfl rfl rfl (by decide +kernel) ⟨Nat.le_of_ble_eq_true rfl, Nat.le_of_ble_eq_true rfl⟩) hP hK (va_recv hK hP (ci := 4) (q0 := 0) rfl rfl) rfl hl.1 rfl (lv_room (Nat.le_of_ble_eq_true rfl)) d_K_look_230 ⟨Nat.zero_le _, Nat.zero_le _⟩ ?_
          exact hret _ _ _ _ _ rfl hP hS d_K_look_233
      · exact absurd c3 (by decide)
set_option maxHeartbeats 4000000 in
set_option maxRecDepth 100000 in
theorem c_K_count (l : Launch) (D : va_G) (an : Nat → Nat) (kn : Nat → ClassId) (h : Nat → Nat → Int32) (o : Nat → Bool) (u : Nat → Int32) (nb : Nat) (hnb : u 1 = nI nb) (hb6 : nb ≤ 60) (nx : Nat) (hnx : u 2 = nI nx) (hx6 : nx ≤ 60) (nl : Nat) (hnl : u 3 = nI nl) (hl2 : nl ≤ 200) (hab : abvOk (h 3) nb) (k : Nat) (hk : k < 9) : WRi l y_K_count (.code y_K_count b_K_count 5 (some .int) :: TB) ({ frames := 3, cells := 0, slots := 0, locals := 70 } : Room) [.ref (an 0), .int (nI k)] D classes (wK an kn h o u) (wK an kn h o (upd u 0 0)) (tK kn) (cntK h o u nb nl nx k) := by
  refine wr_of (by decide +kernel) (rfl) (Nat.le_of_ble_eq_true rfl) ?_
  intro p e s m args below meth c Q ls A hx hb hml htb hown hP hK hD hS hA hl hret
  have hl : lv_has ls 5 [(0, .ref (an 0)), (1, .int (nI k))] := hl
  refine lv_aload_n hx hb d_K_count_0 rfl (lv_at hl 0 rfl) ?_
  refine lv_iconst (v := 0) hx hb d_K_count_1 (by decide) ?_
  refine va_put (D := D) (ci := 4) (v := .int 0) (ty := .int) (C := R_K) (T := F_K) (N := 22) hx hb htb iw_K t_K t_K_ok n_K hown hK hP hD hS 0 rfl rfl 0 (by decide) (htb _ mw_596) (fun _ h9 => h9) rfl (by decide +kernel) rfl rfl (Nat.le_of_ble_eq_true rfl) d_K_count_2 (fun H locs hP hD hS => ?_)
  have hP : va_P D classes (wK an kn h o (upd u 0 0)) H := hP
  have hD : va_D A (wK an kn h o (upd u 0 0)) := hD
  refine lv_iconst (v := 0) hx hb d_K_count_5 (by decide) ?_
  refine lv_istore_n (lv' := [(2, .int 0), (0, .ref (an 0)), (1, .int (nI k))]) hx hb d_K_count_6 rfl hl (by decide) rfl (fun ls hl => ?_)
  refine lv_iconst (v := 0) hx hb d_K_count_7 (by decide) ?_
  refine lv_istore_n (lv' := [(3, .int 0), (2, .int 0), (0, .ref (an 0)), (1, .int (nI k))]) hx hb d_K_count_8 rfl hl (by decide) rfl (fun ls hl => ?_)
  refine lv_iconst (v := 0) hx hb d_K_count_9 (by decide) ?_
  refine lv_istore (lv' := [(4, .int 0), (3, .int 0), (2, .int 0), (0, .ref (an 0)), (1, .int (nI k))]) hx hb d_K_count_10 hl (by decide) rfl (fun ls hl => ?_)
  have lp12 : ∀ (n : Nat) (i : Nat) (f : Nat) (f2 : Nat), i ≤ nx → nx + 1 ≤ i + n → f = cntN (lanP h) i → f2 = cntN (wnoR h o nb) i → ∀ (ls : Array Slot), lv_has ls 5 [(0, .ref (an 0)), (1, .int (nI k)), (2, .int (nI f)), (3, .int (nI f2)), (4, .int (nI i))] → W p l e ({ frames := 3, cells := 0, slots := 0, locals := 70 } : Room) s m args below meth c H locs 0 0 Q (F0 m 12 ls []) := by
    intro n
    induction n with
    | zero => intro i f f2 hi hm hf hf2 ls hl; exact absurd hm (by omega)
    | succ n ih =>
      intro i f f2 hi hm hf hf2 ls hl
      refine lv_iload hx hb d_K_count_12 (lv_at hl 4 rfl) ?_
      refine lv_aload_n hx hb d_K_count_14 rfl (lv_at hl 0 rfl) ?_
      refine va_get (D := D) (ci := 4) (v := .int (nI nx)) (C := R_K) (T := F_K) (N := 22) hx hb htb iw_K hown hK hP 0 rfl rfl 2 (by decide) (htb _ mw_598) (fun _ h9 => h9) (congrArg (fun x => some (Value.int x)) hnx) d_K_count_15 ?_
      refine q_icmp_ge (a := i) (b := nx) (tgt := 62) hx hb (by omega) (by omega) d_K_count_18 (by decide) (fun c1 => ?_) (fun c1 => ?_)
      · refine lv_iload_n hx hb d_K_count_62 rfl (lv_at hl 1 rfl) ?_
        rcases (show k = 0 ∨ k = 1 ∨ k = 2 ∨ k = 3 ∨ k = 4 ∨ k = 5 ∨ k = 6 ∨ k = 7 ∨ k = 8 by omega) with rfl | rfl | rfl | rfl | rfl | rfl | rfl | rfl | rfl
        · refine lv_tableIn (tgt := 112) hx hb d_K_count_63 (by decide) (by decide) rfl (by decide) ?_
          refine lv_aload_n hx hb d_K_count_112 rfl (lv_at hl 0 rfl) ?_
          refine va_get (D := D) (ci := 4) (v := .int (nI nb)) (C := R_K) (T := F_K) (N := 22) hx hb htb iw_K hown hK hP 0 rfl rfl 1 (by decide) (htb _ mw_597) (fun _ h9 => h9) (congrArg (fun x => some (Value.int x)) hnb) d_K_count_113 ?_
          exact hret _ _ _ _ _ rfl hP hS d_K_count_116
        · refine lv_tableIn (tgt := 117) hx hb d_K_count_63 (by decide) (by decide) rfl (by decide) ?_
          refine lv_aload_n hx hb d_K_count_117 rfl (lv_at hl 0 rfl) ?_
          refine va_get (D := D) (ci := 4) (v := .int (nI nx)) (C := R_K) (T := F_K) (N := 22) hx hb htb iw_K hown hK hP 0 rfl rfl 2 (by decide) (htb _ mw_598) (fun _ h9 => h9) (congrArg (fun x => some (Value.int x)) hnx) d_K_count_118 ?_
          exact hret _ _ _ _ _ rfl hP hS d_K_count_121
        · refine lv_tableIn (tgt := 122) hx hb d_K_count_63 (by decide) (by decide) rfl (by decide) ?_
          refine lv_aload_n hx hb d_K_count_122 rfl (lv_at hl 0 rfl) ?_
          refine va_get (D := D) (ci := 4) (v := .int (nI nl)) (C := R_K) (T := F_K) (N := 22) hx hb htb iw_K hown hK hP 0 rfl rfl 3 (by decide) (htb _ mw_599) (fun _ h9 => h9) (congrArg (fun x => some (Value.int x)) hnl) d_K_count_123 ?_
          exact hret _ _ _ _ _ rfl hP hS d_K_count_126
        · refine lv_tableIn (tgt := 127) hx hb d_K_count_63 (by decide) (by decide) rfl (by decide) ?_
          refine lv_aload_n hx hb d_K_count_127 rfl (lv_at hl 0 rfl) ?_
          refine va_get (D := D) (ci := 4) (v := .int (u 4)) (C := R_K) (T := F_K) (N := 22) hx hb htb iw_K hown hK hP 0 rfl rfl 4 (by decide) (htb _ mw_600) (fun _ h9 => h9) rfl d_K_count_128 ?_
          exact hret _ _ _ _ _ rfl hP hS d_K_count_131
        · refine lv_tableIn (tgt := 132) hx hb d_K_count_63 (by decide) (by decide) rfl (by decide) ?_
          refine lv_aload_n hx hb d_K_count_132 rfl (lv_at hl 0 rfl) ?_
          refine va_get (D := D) (ci := 4) (v := .int (u 5)) (C := R_K) (T := F_K) (N := 22) hx hb htb iw_K hown hK hP 0 rfl rfl 5 (by decide) (htb _ mw_601) (fun _ h9 => h9) rfl d_K_count_133 ?_
          exact hret _ _ _ _ _ rfl hP hS d_K_count_136
        · refine lv_tableIn (tgt := 137) hx hb d_K_count_63 (by decide) (by decide) rfl (by decide) ?_
          refine lv_iload_n hx hb d_K_count_137 rfl (lv_at hl 2 rfl) ?_
          exact hret _ _ _ _ _ (by show nI f = nI (cntN _ nx); rw [show nx = i by omega, hf]) hP hS d_K_count_138
        · refine lv_tableIn (tgt := 139) hx hb d_K_count_63 (by decide) (by decide) rfl (by decide) ?_
          refine lv_iload_n hx hb d_K_count_139 rfl (lv_at hl 3 rfl) ?_
          exact hret _ _ _ _ _ (by show nI f2 = nI (cntN _ nx); rw [show nx = i by omega, hf2]) hP hS d_K_count_140
        · refine lv_tableIn (tgt := 141) hx hb d_K_count_63 (by decide) (by decide) rfl (by decide) ?_
          refine lv_aload_n hx hb d_K_count_141 rfl (lv_at hl 0 rfl) ?_
          refine va_get (D := D) (ci := 4) (v := .int (u 6)) (C := R_K) (T := F_K) (N := 22) hx hb htb iw_K hown hK hP 0 rfl rfl 6 (by decide) (htb _ mw_602) (fun _ h9 => h9) rfl d_K_count_142 ?_
          exact hret _ _ _ _ _ rfl hP hS d_K_count_145
        · refine lv_tableIn (tgt := 146) hx hb d_K_count_63 (by decide) (by decide) rfl (by decide) ?_
          refine lv_aload_n hx hb d_K_count_146 rfl (lv_at hl 0 rfl) ?_
          refine rdV (As := []) (rest := []) (b := an 0) ⟨hx, hb, hml, hown, htb⟩ (c_K_differing l D an kn h o (upd u 0 0) nb (show (upd u 0 0) 1 = nI nb from hnb) hb6 nl (show (upd u 0 0) 3 = nI nl from hnl) hl2 hab) (cwV (C := R_K) 0 htb (gV tb_good mw_824 mw_826 mw_25 mw_31 mw_827) rfl rfl rfl (by decide +kernel) ⟨Nat.le_of_ble_eq_true rfl, Nat.le_of_ble_eq_true rfl⟩) hP hK (va_recv hK hP (ci := 4) (q0 := 0) rfl rfl) rfl hl.1 rfl (lv_room (Nat.le_of_ble_eq_true rfl)) d_K_count_147 ⟨Nat.zero_le _, Nat.zero_le _⟩ ?_
          exact hret _ _ _ _ _ rfl hP hS d_K_count_150
      · refine lv_iload_n hx hb d_K_count_21 rfl (lv_at hl 2 rfl) ?_
        refine lv_aload_n hx hb d_K_count_22 rfl (lv_at hl 0 rfl) ?_
        refine va_get (D := D) (ci := 4) (v := .ref (an 12)) (C := R_K) (T := F_K) (N := 22) hx hb htb iw_K hown hK hP 0 rfl rfl 18 (by decide) (htb _ mw_614) (fun _ h9 => h9) rfl d_K_count_23 ?_
        refine lv_iload hx hb d_K_count_26 (lv_at hl 4 rfl) ?_
        refine q_iald hx hb hK hP 12 11 rfl rfl i (by omega) (by decide) d_K_count_28 ?_
        refine lv_if_lt (tgt := 36) hx hb d_K_count_29 (by decide) (fun c2 => ?_) (fun c2 => ?_)
        · refine lv_iconst (v := 0) hx hb d_K_count_36 (by decide) ?_
          refine lv_iadd hx hb d_K_count_37 ?_
          refine W.eq (congrArg (fun z => F0 m 38 ls (.int z :: [])) (show ((nI f) + 0) = (nI f) from Int32.add_zero _)) ?_
          refine lv_istore_n (lv' := [(2, .int (nI f)), (0, .ref (an 0)), (1, .int (nI k)), (3, .int (nI f2)), (4, .int (nI i))]) hx hb d_K_count_38 rfl hl (by decide) rfl (fun ls hl => ?_)
          refine lv_iload_n hx hb d_K_count_39 rfl (lv_at hl 3 rfl) ?_
          refine lv_aload_n hx hb d_K_count_40 rfl (lv_at hl 1 rfl) ?_
          refine lv_iload hx hb d_K_count_41 (lv_at hl 4 rfl) ?_
          refine rdV (As := [.int (nI i)]) (rest := [.int (nI f2)]) (b := an 0) ⟨hx, hb, hml, hown, htb⟩ (c_K_waitsNow l D an kn h o (upd u 0 0) nb (show (upd u 0 0) 1 = nI nb from hnb) hb6 i (by omega)) (cwV (C := R_K) 1 htb (gV tb_good mw_805 mw_807 mw_24 mw_31 mw_808) rfl rfl rfl (by decide +kernel) ⟨Nat.le_of_ble_eq_true rfl, Nat.le_of_ble_eq_true rfl⟩) hP hK (va_recv hK hP (ci := 4) (q0 := 0) rfl rfl) rfl hl.1 rfl (lv_room (Nat.le_of_ble_eq_true rfl)) d_K_count_43 ⟨Nat.zero_le _, Nat.zero_le _⟩ ?_
          refine lv_if_eq (tgt := 53) hx hb d_K_count_46 (by decide) (fun c3 => ?_) (fun c3 => ?_)
          · replace c3 := bI_f c3
            refine lv_iconst (v := 0) hx hb d_K_count_53 (by decide) ?_
            refine lv_iadd hx hb d_K_count_54 ?_
            refine W.eq (congrArg (fun z => F0 m 55 ls (.int z :: [])) (show ((nI f2) + 0) = (nI f2) from Int32.add_zero _)) ?_
            refine lv_istore_n (lv' := [(3, .int (nI f2)), (2, .int (nI f)), (0, .ref (an 0)), (1, .int (nI k)), (4, .int (nI i))]) hx hb d_K_count_55 rfl hl (by decide) rfl (fun ls hl => ?_)
            refine lv_iinc (v := (nI (i + 1))) (lv' := [(4, .int (nI (i + 1))), (3, .int (nI f2)), (2, .int (nI f)), (0, .ref (an 0)), (1, .int (nI k))]) hx hb d_K_count_56 hl (k := 4) rfl (q_inc _) (by decide) rfl (fun ls hl => ?_)
            refine lv_goto (tgt := 12) hx hb d_K_count_59 (by decide) ?_
            exact ih (i + 1) f f2 (by omega) (by omega) (by rw [cntN_f (by simp [lanP, c1, c2, c3]), hf]) (by rw [cntN_f (by simp [c1, c2, c3]), hf2]) _ (lv_sub hl [3, 4, 2, 1, 0] rfl)
          · replace c3 := bI_t c3
            refine lv_iconst (v := 1) hx hb d_K_count_49 (by decide) ?_
            refine lv_goto (tgt := 54) hx hb d_K_count_50 (by decide) ?_
            refine lv_iadd hx hb d_K_count_54 ?_
            refine W.eq (congrArg (fun z => F0 m 55 ls (.int z :: [])) (show ((nI f2) + 1) = (nI (f2 + 1)) from nI_1 _)) ?_
            refine lv_istore_n (lv' := [(3, .int (nI (f2 + 1))), (2, .int (nI f)), (0, .ref (an 0)), (1, .int (nI k)), (4, .int (nI i))]) hx hb d_K_count_55 rfl hl (by decide) rfl (fun ls hl => ?_)
            refine lv_iinc (v := (nI (i + 1))) (lv' := [(4, .int (nI (i + 1))), (3, .int (nI (f2 + 1))), (2, .int (nI f)), (0, .ref (an 0)), (1, .int (nI k))]) hx hb d_K_count_56 hl (k := 4) rfl (q_inc _) (by decide) rfl (fun ls hl => ?_)
            refine lv_goto (tgt := 12) hx hb d_K_count_59 (by decide) ?_
            exact ih (i + 1) f (f2 + 1) (by omega) (by omega) (by rw [cntN_f (by simp [lanP, c1, c2, c3]), hf]) (by rw [cntN_t (by simp [c1, c2, c3]), hf2]) _ (lv_sub hl [3, 4, 2, 1, 0] rfl)
        · refine lv_iconst (v := 1) hx hb d_K_count_32 (by decide) ?_
          refine lv_goto (tgt := 37) hx hb d_K_count_33 (by decide) ?_
          refine lv_iadd hx hb d_K_count_37 ?_
          refine W.eq (congrArg (fun z => F0 m 38 ls (.int z :: [])) (show ((nI f) + 1) = (nI (f + 1)) from nI_1 _)) ?_
          refine lv_istore_n (lv' := [(2, .int (nI (f + 1))), (0, .ref (an 0)), (1, .int (nI k)), (3, .int (nI f2)), (4, .int (nI i))]) hx hb d_K_count_38 rfl hl (by decide) rfl (fun ls hl => ?_)
          refine lv_iload_n hx hb d_K_count_39 rfl (lv_at hl 3 rfl) ?_
          refine lv_aload_n hx hb d_K_count_40 rfl (lv_at hl 1 rfl) ?_
          refine lv_iload hx hb d_K_count_41 (lv_at hl 4 rfl) ?_
          refine rdV (As := [.int (nI i)]) (rest := [.int (nI f2)]) (b := an 0) ⟨hx, hb, hml, hown, htb⟩ (c_K_waitsNow l D an kn h o (upd u 0 0) nb (show (upd u 0 0) 1 = nI nb from hnb) hb6 i (by omega)) (cwV (C := R_K) 1 htb (gV tb_good mw_805 mw_807 mw_24 mw_31 mw_808) rfl rfl rfl (by decide +kernel) ⟨Nat.le_of_ble_eq_true rfl, Nat.le_of_ble_eq_true rfl⟩) hP hK (va_recv hK hP (ci := 4) (q0 := 0) rfl rfl) rfl hl.1 rfl (lv_room (Nat.le_of_ble_eq_true rfl)) d_K_count_43 ⟨Nat.zero_le _, Nat.zero_le _⟩ ?_
          refine lv_if_eq (tgt := 53) hx hb d_K_count_46 (by decide) (fun c4 => ?_) (fun c4 => ?_)
          · replace c4 := bI_f c4
            refine lv_iconst (v := 0) hx hb d_K_count_53 (by decide) ?_
            refine lv_iadd hx hb d_K_count_54 ?_
            refine W.eq (congrArg (fun z => F0 m 55 ls (.int z :: [])) (show ((nI f2) + 0) = (nI f2) from Int32.add_zero _)) ?_
            refine lv_istore_n (lv' := [(3, .int (nI f2)), (2, .int (nI (f + 1))), (0, .ref (an 0)), (1, .int (nI k)), (4, .int (nI i))]) hx hb d_K_count_55 rfl hl (by decide) rfl (fun ls hl => ?_)
            refine lv_iinc (v := (nI (i + 1))) (lv' := [(4, .int (nI (i + 1))), (3, .int (nI f2)), (2, .int (nI (f + 1))), (0, .ref (an 0)), (1, .int (nI k))]) hx hb d_K_count_56 hl (k := 4) rfl (q_inc _) (by decide) rfl (fun ls hl => ?_)
            refine lv_goto (tgt := 12) hx hb d_K_count_59 (by decide) ?_
            exact ih (i + 1) (f + 1) f2 (by omega) (by omega) (by rw [cntN_t (by simp [lanP, c1, c2, c4]), hf]) (by rw [cntN_f (by simp [c1, c2, c4]), hf2]) _ (lv_sub hl [3, 4, 2, 1, 0] rfl)
          · replace c4 := bI_t c4
            refine lv_iconst (v := 1) hx hb d_K_count_49 (by decide) ?_
            refine lv_goto (tgt := 54) hx hb d_K_count_50 (by decide) ?_
            refine lv_iadd hx hb d_K_count_54 ?_
            refine W.eq (congrArg (fun z => F0 m 55 ls (.int z :: [])) (show ((nI f2) + 1) = (nI (f2 + 1)) from nI_1 _)) ?_
            refine lv_istore_n (lv' := [(3, .int (nI (f2 + 1))), (2, .int (nI (f + 1))), (0, .ref (an 0)), (1, .int (nI k)), (4, .int (nI i))]) hx hb d_K_count_55 rfl hl (by decide) rfl (fun ls hl => ?_)
            refine lv_iinc (v := (nI (i + 1))) (lv' := [(4, .int (nI (i + 1))), (3, .int (nI (f2 + 1))), (2, .int (nI (f + 1))), (0, .ref (an 0)), (1, .int (nI k))]) hx hb d_K_count_56 hl (k := 4) rfl (q_inc _) (by decide) rfl (fun ls hl => ?_)
            refine lv_goto (tgt := 12) hx hb d_K_count_59 (by decide) ?_
            exact ih (i + 1) (f + 1) (f2 + 1) (by omega) (by omega) (by rw [cntN_t (by simp [lanP, c1, c2, c4]), hf]) (by rw [cntN_t (by simp [c1, c2, c4]), hf2]) _ (lv_sub hl [3, 4, 2, 1, 0] rfl)
  exact lp12 (nx + 1) 0 0 0 (Nat.zero_le _) (by omega) rfl rfl _ (lv_sub hl [3, 4, 2, 1, 0] rfl)
set_option maxHeartbeats 4000000 in
set_option maxRecDepth 100000 in
theorem c_K_countN (l : Launch) (D : va_G) (an : Nat → Nat) (kn : Nat → ClassId) (h : Nat → Nat → Int32) (o : Nat → Bool) (u : Nat → Int32) (nb : Nat) (hnb : u 1 = nI nb) (hb6 : nb ≤ 60) (nx : Nat) (hnx : u 2 = nI nx) (hx6 : nx ≤ 60) (nl : Nat) (hnl : u 3 = nI nl) (hl2 : nl ≤ 200) (hab : abvOk (h 3) nb) (x : Int32) (ho : x.toInt < 0 ∨ 8 < x.toInt) : WRi l y_K_count (.code y_K_count b_K_count 5 (some .int) :: TB) ({ frames := 3, cells := 0, slots := 0, locals := 70 } : Room) [.ref (an 0), .int x] D classes (wK an kn h o u) (wK an kn h o (upd u 0 0)) (tK kn) (-1) := by
  refine wr_of (by decide +kernel) (rfl) (Nat.le_of_ble_eq_true rfl) ?_
  intro p e s m args below meth c Q ls A hx hb hml htb hown hP hK hD hS hA hl hret
  have hl : lv_has ls 5 [(0, .ref (an 0)), (1, .int x)] := hl
  refine lv_aload_n hx hb d_K_count_0 rfl (lv_at hl 0 rfl) ?_
  refine lv_iconst (v := 0) hx hb d_K_count_1 (by decide) ?_
  refine va_put (D := D) (ci := 4) (v := .int 0) (ty := .int) (C := R_K) (T := F_K) (N := 22) hx hb htb iw_K t_K t_K_ok n_K hown hK hP hD hS 0 rfl rfl 0 (by decide) (htb _ mw_596) (fun _ h9 => h9) rfl (by decide +kernel) rfl rfl (Nat.le_of_ble_eq_true rfl) d_K_count_2 (fun H locs hP hD hS => ?_)
  have hP : va_P D classes (wK an kn h o (upd u 0 0)) H := hP
  have hD : va_D A (wK an kn h o (upd u 0 0)) := hD
  refine lv_iconst (v := 0) hx hb d_K_count_5 (by decide) ?_
  refine lv_istore_n (lv' := [(2, .int 0), (0, .ref (an 0)), (1, .int x)]) hx hb d_K_count_6 rfl hl (by decide) rfl (fun ls hl => ?_)
  refine lv_iconst (v := 0) hx hb d_K_count_7 (by decide) ?_
  refine lv_istore_n (lv' := [(3, .int 0), (2, .int 0), (0, .ref (an 0)), (1, .int x)]) hx hb d_K_count_8 rfl hl (by decide) rfl (fun ls hl => ?_)
  refine lv_iconst (v := 0) hx hb d_K_count_9 (by decide) ?_
  refine lv_istore (lv' := [(4, .int 0), (3, .int 0), (2, .int 0), (0, .ref (an 0)), (1, .int x)]) hx hb d_K_count_10 hl (by decide) rfl (fun ls hl => ?_)
  have lp12 : ∀ (n : Nat) (i : Nat) (f : Nat) (f2 : Nat), i ≤ nx → nx + 1 ≤ i + n → f = cntN (lanP h) i → f2 = cntN (wnoR h o nb) i → ∀ (ls : Array Slot), lv_has ls 5 [(0, .ref (an 0)), (1, .int x), (2, .int (nI f)), (3, .int (nI f2)), (4, .int (nI i))] → W p l e ({ frames := 3, cells := 0, slots := 0, locals := 70 } : Room) s m args below meth c H locs 0 0 Q (F0 m 12 ls []) := by
    intro n
    induction n with
    | zero => intro i f f2 hi hm hf hf2 ls hl; exact absurd hm (by omega)
    | succ n ih =>
      intro i f f2 hi hm hf hf2 ls hl
      refine lv_iload hx hb d_K_count_12 (lv_at hl 4 rfl) ?_
      refine lv_aload_n hx hb d_K_count_14 rfl (lv_at hl 0 rfl) ?_
      refine va_get (D := D) (ci := 4) (v := .int (nI nx)) (C := R_K) (T := F_K) (N := 22) hx hb htb iw_K hown hK hP 0 rfl rfl 2 (by decide) (htb _ mw_598) (fun _ h9 => h9) (congrArg (fun x => some (Value.int x)) hnx) d_K_count_15 ?_
      refine q_icmp_ge (a := i) (b := nx) (tgt := 62) hx hb (by omega) (by omega) d_K_count_18 (by decide) (fun c1 => ?_) (fun c1 => ?_)
      · refine lv_iload_n hx hb d_K_count_62 rfl (lv_at hl 1 rfl) ?_
        refine lv_tableOut (tgt := 151) hx hb d_K_count_63 ho (by decide) ?_
        refine lv_iconst (v := (-1)) hx hb d_K_count_151 (by decide) ?_
        exact hret _ _ _ _ _ rfl hP hS d_K_count_152
      · refine lv_iload_n hx hb d_K_count_21 rfl (lv_at hl 2 rfl) ?_
        refine lv_aload_n hx hb d_K_count_22 rfl (lv_at hl 0 rfl) ?_
        refine va_get (D := D) (ci := 4) (v := .ref (an 12)) (C := R_K) (T := F_K) (N := 22) hx hb htb iw_K hown hK hP 0 rfl rfl 18 (by decide) (htb _ mw_614) (fun _ h9 => h9) rfl d_K_count_23 ?_
        refine lv_iload hx hb d_K_count_26 (lv_at hl 4 rfl) ?_
        refine q_iald hx hb hK hP 12 11 rfl rfl i (by omega) (by decide) d_K_count_28 ?_
        refine lv_if_lt (tgt := 36) hx hb d_K_count_29 (by decide) (fun c2 => ?_) (fun c2 => ?_)
        · refine lv_iconst (v := 0) hx hb d_K_count_36 (by decide) ?_
          refine lv_iadd hx hb d_K_count_37 ?_
          refine W.eq (congrArg (fun z => F0 m 38 ls (.int z :: [])) (show ((nI f) + 0) = (nI f) from Int32.add_zero _)) ?_
          refine lv_istore_n (lv' := [(2, .int (nI f)), (0, .ref (an 0)), (1, .int x), (3, .int (nI f2)), (4, .int (nI i))]) hx hb d_K_count_38 rfl hl (by decide) rfl (fun ls hl => ?_)
          refine lv_iload_n hx hb d_K_count_39 rfl (lv_at hl 3 rfl) ?_
          refine lv_aload_n hx hb d_K_count_40 rfl (lv_at hl 1 rfl) ?_
          refine lv_iload hx hb d_K_count_41 (lv_at hl 4 rfl) ?_
          refine rdV (As := [.int (nI i)]) (rest := [.int (nI f2)]) (b := an 0) ⟨hx, hb, hml, hown, htb⟩ (c_K_waitsNow l D an kn h o (upd u 0 0) nb (show (upd u 0 0) 1 = nI nb from hnb) hb6 i (by omega)) (cwV (C := R_K) 1 htb (gV tb_good mw_805 mw_807 mw_24 mw_31 mw_808) rfl rfl rfl (by decide +kernel) ⟨Nat.le_of_ble_eq_true rfl, Nat.le_of_ble_eq_true rfl⟩) hP hK (va_recv hK hP (ci := 4) (q0 := 0) rfl rfl) rfl hl.1 rfl (lv_room (Nat.le_of_ble_eq_true rfl)) d_K_count_43 ⟨Nat.zero_le _, Nat.zero_le _⟩ ?_
          refine lv_if_eq (tgt := 53) hx hb d_K_count_46 (by decide) (fun c3 => ?_) (fun c3 => ?_)
          · replace c3 := bI_f c3
            refine lv_iconst (v := 0) hx hb d_K_count_53 (by decide) ?_
            refine lv_iadd hx hb d_K_count_54 ?_
            refine W.eq (congrArg (fun z => F0 m 55 ls (.int z :: [])) (show ((nI f2) + 0) = (nI f2) from Int32.add_zero _)) ?_
            refine lv_istore_n (lv' := [(3, .int (nI f2)), (2, .int (nI f)), (0, .ref (an 0)), (1, .int x), (4, .int (nI i))]) hx hb d_K_count_55 rfl hl (by decide) rfl (fun ls hl => ?_)
            refine lv_iinc (v := (nI (i + 1))) (lv' := [(4, .int (nI (i + 1))), (3, .int (nI f2)), (2, .int (nI f)), (0, .ref (an 0)), (1, .int x)]) hx hb d_K_count_56 hl (k := 4) rfl (q_inc _) (by decide) rfl (fun ls hl => ?_)
            refine lv_goto (tgt := 12) hx hb d_K_count_59 (by decide) ?_
            exact ih (i + 1) f f2 (by omega) (by omega) (by rw [cntN_f (by simp [lanP, c1, c2, c3]), hf]) (by rw [cntN_f (by simp [c1, c2, c3]), hf2]) _ (lv_sub hl [3, 4, 2, 1, 0] rfl)
          · replace c3 := bI_t c3
            refine lv_iconst (v := 1) hx hb d_K_count_49 (by decide) ?_
            refine lv_goto (tgt := 54) hx hb d_K_count_50 (by decide) ?_
            refine lv_iadd hx hb d_K_count_54 ?_
            refine W.eq (congrArg (fun z => F0 m 55 ls (.int z :: [])) (show ((nI f2) + 1) = (nI (f2 + 1)) from nI_1 _)) ?_
            refine lv_istore_n (lv' := [(3, .int (nI (f2 + 1))), (2, .int (nI f)), (0, .ref (an 0)), (1, .int x), (4, .int (nI i))]) hx hb d_K_count_55 rfl hl (by decide) rfl (fun ls hl => ?_)
            refine lv_iinc (v := (nI (i + 1))) (lv' := [(4, .int (nI (i + 1))), (3, .int (nI (f2 + 1))), (2, .int (nI f)), (0, .ref (an 0)), (1, .int x)]) hx hb d_K_count_56 hl (k := 4) rfl (q_inc _) (by decide) rfl (fun ls hl => ?_)
            refine lv_goto (tgt := 12) hx hb d_K_count_59 (by decide) ?_
            exact ih (i + 1) f (f2 + 1) (by omega) (by omega) (by rw [cntN_f (by simp [lanP, c1, c2, c3]), hf]) (by rw [cntN_t (by simp [c1, c2, c3]), hf2]) _ (lv_sub hl [3, 4, 2, 1, 0] rfl)
        · refine lv_iconst (v := 1) hx hb d_K_count_32 (by decide) ?_
          refine lv_goto (tgt := 37) hx hb d_K_count_33 (by decide) ?_
          refine lv_iadd hx hb d_K_count_37 ?_
          refine W.eq (congrArg (fun z => F0 m 38 ls (.int z :: [])) (show ((nI f) + 1) = (nI (f + 1)) from nI_1 _)) ?_
          refine lv_istore_n (lv' := [(2, .int (nI (f + 1))), (0, .ref (an 0)), (1, .int x), (3, .int (nI f2)), (4, .int (nI i))]) hx hb d_K_count_38 rfl hl (by decide) rfl (fun ls hl => ?_)
          refine lv_iload_n hx hb d_K_count_39 rfl (lv_at hl 3 rfl) ?_
          refine lv_aload_n hx hb d_K_count_40 rfl (lv_at hl 1 rfl) ?_
          refine lv_iload hx hb d_K_count_41 (lv_at hl 4 rfl) ?_
          refine rdV (As := [.int (nI i)]) (rest := [.int (nI f2)]) (b := an 0) ⟨hx, hb, hml, hown, htb⟩ (c_K_waitsNow l D an kn h o (upd u 0 0) nb (show (upd u 0 0) 1 = nI nb from hnb) hb6 i (by omega)) (cwV (C := R_K) 1 htb (gV tb_good mw_805 mw_807 mw_24 mw_31 mw_808) rfl rfl rfl (by decide +kernel) ⟨Nat.le_of_ble_eq_true rfl, Nat.le_of_ble_eq_true rfl⟩) hP hK (va_recv hK hP (ci := 4) (q0 := 0) rfl rfl) rfl hl.1 rfl (lv_room (Nat.le_of_ble_eq_true rfl)) d_K_count_43 ⟨Nat.zero_le _, Nat.zero_le _⟩ ?_
          refine lv_if_eq (tgt := 53) hx hb d_K_count_46 (by decide) (fun c4 => ?_) (fun c4 => ?_)
          · replace c4 := bI_f c4
            refine lv_iconst (v := 0) hx hb d_K_count_53 (by decide) ?_
            refine lv_iadd hx hb d_K_count_54 ?_
            refine W.eq (congrArg (fun z => F0 m 55 ls (.int z :: [])) (show ((nI f2) + 0) = (nI f2) from Int32.add_zero _)) ?_
            refine lv_istore_n (lv' := [(3, .int (nI f2)), (2, .int (nI (f + 1))), (0, .ref (an 0)), (1, .int x), (4, .int (nI i))]) hx hb d_K_count_55 rfl hl (by decide) rfl (fun ls hl => ?_)
            refine lv_iinc (v := (nI (i + 1))) (lv' := [(4, .int (nI (i + 1))), (3, .int (nI f2)), (2, .int (nI (f + 1))), (0, .ref (an 0)), (1, .int x)]) hx hb d_K_count_56 hl (k := 4) rfl (q_inc _) (by decide) rfl (fun ls hl => ?_)
            refine lv_goto (tgt := 12) hx hb d_K_count_59 (by decide) ?_
            exact ih (i + 1) (f + 1) f2 (by omega) (by omega) (by rw [cntN_t (by simp [lanP, c1, c2, c4]), hf]) (by rw [cntN_f (by simp [c1, c2, c4]), hf2]) _ (lv_sub hl [3, 4, 2, 1, 0] rfl)
          · replace c4 := bI_t c4
            refine lv_iconst (v := 1) hx hb d_K_count_49 (by decide) ?_
            refine lv_goto (tgt := 54) hx hb d_K_count_50 (by decide) ?_
            refine lv_iadd hx hb d_K_count_54 ?_
            refine W.eq (congrArg (fun z => F0 m 55 ls (.int z :: [])) (show ((nI f2) + 1) = (nI (f2 + 1)) from nI_1 _)) ?_
            refine lv_istore_n (lv' := [(3, .int (nI (f2 + 1))), (2, .int (nI (f + 1))), (0, .ref (an 0)), (1, .int x), (4, .int (nI i))]) hx hb d_K_count_55 rfl hl (by decide) rfl (fun ls hl => ?_)
            refine lv_iinc (v := (nI (i + 1))) (lv' := [(4, .int (nI (i + 1))), (3, .int (nI (f2 + 1))), (2, .int (nI (f + 1))), (0, .ref (an 0)), (1, .int x)]) hx hb d_K_count_56 hl (k := 4) rfl (q_inc _) (by decide) rfl (fun ls hl => ?_)
            refine lv_goto (tgt := 12) hx hb d_K_count_59 (by decide) ?_
            exact ih (i + 1) (f + 1) (f2 + 1) (by omega) (by omega) (by rw [cntN_t (by simp [lanP, c1, c2, c4]), hf]) (by rw [cntN_t (by simp [c1, c2, c4]), hf2]) _ (lv_sub hl [3, 4, 2, 1, 0] rfl)
  exact lp12 (nx + 1) 0 0 0 (Nat.zero_le _) (by omega) rfl rfl _ (lv_sub hl [3, 4, 2, 1, 0] rfl)
set_option maxHeartbeats 4000000 in
set_option maxRecDepth 100000 in
theorem c_K_waits (l : Launch) (D : va_G) (an : Nat → Nat) (kn : Nat → ClassId) (h : Nat → Nat → Int32) (o : Nat → Bool) (u : Nat → Int32) (nb : Nat) (hnb : u 1 = nI nb) (hb6 : nb ≤ 60) (nx : Nat) (hnx : u 2 = nI nx) (hx6 : nx ≤ 60) (x : Int32) : WRi l y_K_waits (.code y_K_waits b_K_waits 4 (some .int) :: TB) ({ frames := 3, cells := 0, slots := 0, locals := 66 } : Room) [.ref (an 0), .int x] D classes (wK an kn h o u) (wK an kn h o (upd u 0 0)) (tK kn) (pickN (wnoR h o nb) x nx) := by
  refine wr_of (by decide +kernel) (rfl) (Nat.le_of_ble_eq_true rfl) ?_
  intro p e s m args below meth c Q ls A hx hb hml htb hown hP hK hD hS hA hl hret
  have hl : lv_has ls 4 [(0, .ref (an 0)), (1, .int x)] := hl
  refine lv_aload_n hx hb d_K_waits_0 rfl (lv_at hl 0 rfl) ?_
  refine lv_iconst (v := 0) hx hb d_K_waits_1 (by decide) ?_
  refine va_put (D := D) (ci := 4) (v := .int 0) (ty := .int) (C := R_K) (T := F_K) (N := 22) hx hb htb iw_K t_K t_K_ok n_K hown hK hP hD hS 0 rfl rfl 0 (by decide) (htb _ mw_596) (fun _ h9 => h9) rfl (by decide +kernel) rfl rfl (Nat.le_of_ble_eq_true rfl) d_K_waits_2 (fun H locs hP hD hS => ?_)
  have hP : va_P D classes (wK an kn h o (upd u 0 0)) H := hP
  have hD : va_D A (wK an kn h o (upd u 0 0)) := hD
  refine lv_iload_n hx hb d_K_waits_5 rfl (lv_at hl 1 rfl) ?_
  refine lv_istore_n (lv' := [(2, .int x), (0, .ref (an 0)), (1, .int x)]) hx hb d_K_waits_6 rfl hl (by decide) rfl (fun ls hl => ?_)
  refine lv_iconst (v := 0) hx hb d_K_waits_7 (by decide) ?_
  refine lv_istore_n (lv' := [(3, .int 0), (2, .int x), (0, .ref (an 0)), (1, .int x)]) hx hb d_K_waits_8 rfl hl (by decide) rfl (fun ls hl => ?_)
  have lp9 : ∀ (n : Nat) (i : Nat) (lf : Int32), i ≤ nx → nx + 1 ≤ i + n → lf = x - nI (cntN (wnoR h o nb) i) → pickN (wnoR h o nb) x i = -1 → ∀ (ls : Array Slot), lv_has ls 4 [(0, .ref (an 0)), (2, .int lf), (3, .int (nI i))] → W p l e ({ frames := 3, cells := 0, slots := 0, locals := 66 } : Room) s m args below meth c H locs 0 0 Q (F0 m 9 ls []) := by
    intro n
    induction n with
    | zero => intro i lf hi hm hlf hp ls hl; exact absurd hm (by omega)
    | succ n ih =>
      intro i lf hi hm hlf hp ls hl
      refine lv_iload_n hx hb d_K_waits_9 rfl (lv_at hl 2 rfl) ?_
      refine lv_aload_n hx hb d_K_waits_10 rfl (lv_at hl 0 rfl) ?_
      refine va_get (D := D) (ci := 4) (v := .int (nI nx)) (C := R_K) (T := F_K) (N := 22) hx hb htb iw_K hown hK hP 0 rfl rfl 2 (by decide) (htb _ mw_598) (fun _ h9 => h9) (congrArg (fun x => some (Value.int x)) hnx) d_K_waits_11 ?_
      refine q_icmp_ge (a := i) (b := nx) (tgt := 53) hx hb (by omega) (by omega) d_K_waits_14 (by decide) (fun c1 => ?_) (fun c1 => ?_)
      · refine lv_iconst (v := (-1)) hx hb d_K_waits_53 (by decide) ?_
        exact hret _ _ _ _ _ (by rw [show nx = i by omega, hp]) hP hS d_K_waits_54
      · refine lv_aload_n hx hb d_K_waits_17 rfl (lv_at hl 0 rfl) ?_
        refine lv_iload_n hx hb d_K_waits_18 rfl (lv_at hl 2 rfl) ?_
        refine rdV (As := [.int (nI i)]) (rest := []) (b := an 0) ⟨hx, hb, hml, hown, htb⟩ (c_K_waitsNow l D an kn h o (upd u 0 0) nb (show (upd u 0 0) 1 = nI nb from hnb) hb6 i (by omega)) (cwV (C := R_K) 1 htb (gV tb_good mw_805 mw_807 mw_24 mw_31 mw_808) rfl rfl rfl (by decide +kernel) ⟨Nat.le_of_ble_eq_true rfl, Nat.le_of_ble_eq_true rfl⟩) hP hK (va_recv hK hP (ci := 4) (q0 := 0) rfl rfl) rfl hl.1 rfl (lv_room (Nat.le_of_ble_eq_true rfl)) d_K_waits_19 ⟨Nat.zero_le _, Nat.zero_le _⟩ ?_
        refine lv_if_eq (tgt := 31) hx hb d_K_waits_22 (by decide) (fun c2 => ?_) (fun c2 => ?_)
        · replace c2 := bI_f c2
          refine lv_iload_n hx hb d_K_waits_31 rfl (lv_at hl 1 rfl) ?_
          refine lv_aload_n hx hb d_K_waits_32 rfl (lv_at hl 0 rfl) ?_
          refine lv_iload_n hx hb d_K_waits_33 rfl (lv_at hl 2 rfl) ?_
          refine rdV (As := [.int (nI i)]) (rest := [.int lf]) (b := an 0) ⟨hx, hb, hml, hown, htb⟩ (c_K_waitsNow l D an kn h o (upd u 0 0) nb (show (upd u 0 0) 1 = nI nb from hnb) hb6 i (by omega)) (cwV (C := R_K) 1 htb (gV tb_good mw_805 mw_807 mw_24 mw_31 mw_808) rfl rfl rfl (by decide +kernel) ⟨Nat.le_of_ble_eq_true rfl, Nat.le_of_ble_eq_true rfl⟩) hP hK (va_recv hK hP (ci := 4) (q0 := 0) rfl rfl) rfl hl.1 rfl (lv_room (Nat.le_of_ble_eq_true rfl)) d_K_waits_34 ⟨Nat.zero_le _, Nat.zero_le _⟩ ?_
          refine lv_if_eq (tgt := 44) hx hb d_K_waits_37 (by decide) (fun c3 => ?_) (fun c3 => ?_)
          · replace c3 := bI_f c3
            refine lv_iconst (v := 0) hx hb d_K_waits_44 (by decide) ?_
            refine lv_isub hx hb d_K_waits_45 ?_
            refine lv_istore_n (lv' := [(2, .int (lf - 0)), (0, .ref (an 0)), (3, .int (nI i))]) hx hb d_K_waits_46 rfl hl (by decide) rfl (fun ls hl => ?_)
            refine lv_iinc (v := (nI (i + 1))) (lv' := [(3, .int (nI (i + 1))), (2, .int (lf - 0)), (0, .ref (an 0))]) hx hb d_K_waits_47 hl (k := 2) rfl (q_inc _) (by decide) rfl (fun ls hl => ?_)
            refine lv_goto (tgt := 9) hx hb d_K_waits_50 (by decide) ?_
            exact ih (i + 1) (lf - 0) (by omega) (by omega) (by rw [hlf, cntN_f (P := (wnoR h o nb)) (by simp [c1, c2, c3])]; exact Int32.sub_zero _) (pickN_miss hp (by simp [c1, c2, c3])) _ (lv_sub hl [2, 1, 0] rfl)
          · replace c3 := bI_t c3
            rw [c2] at c3; exact absurd c3 (by decide)
        · replace c2 := bI_t c2
          refine lv_iload_n hx hb d_K_waits_25 rfl (lv_at hl 1 rfl) ?_
          refine lv_if_ne (tgt := 31) hx hb d_K_waits_26 (by decide) (fun c4 => ?_) (fun c4 => ?_)
          · refine lv_iload_n hx hb d_K_waits_31 rfl (lv_at hl 1 rfl) ?_
            refine lv_aload_n hx hb d_K_waits_32 rfl (lv_at hl 0 rfl) ?_
            refine lv_iload_n hx hb d_K_waits_33 rfl (lv_at hl 2 rfl) ?_
            refine rdV (As := [.int (nI i)]) (rest := [.int lf]) (b := an 0) ⟨hx, hb, hml, hown, htb⟩ (c_K_waitsNow l D an kn h o (upd u 0 0) nb (show (upd u 0 0) 1 = nI nb from hnb) hb6 i (by omega)) (cwV (C := R_K) 1 htb (gV tb_good mw_805 mw_807 mw_24 mw_31 mw_808) rfl rfl rfl (by decide +kernel) ⟨Nat.le_of_ble_eq_true rfl, Nat.le_of_ble_eq_true rfl⟩) hP hK (va_recv hK hP (ci := 4) (q0 := 0) rfl rfl) rfl hl.1 rfl (lv_room (Nat.le_of_ble_eq_true rfl)) d_K_waits_34 ⟨Nat.zero_le _, Nat.zero_le _⟩ ?_
            refine lv_if_eq (tgt := 44) hx hb d_K_waits_37 (by decide) (fun c5 => ?_) (fun c5 => ?_)
            · replace c5 := bI_f c5
              rw [c2] at c5; exact absurd c5 (by decide)
            · replace c5 := bI_t c5
              refine lv_iconst (v := 1) hx hb d_K_waits_40 (by decide) ?_
              refine lv_goto (tgt := 45) hx hb d_K_waits_41 (by decide) ?_
              refine lv_isub hx hb d_K_waits_45 ?_
              refine lv_istore_n (lv' := [(2, .int (lf - 1)), (0, .ref (an 0)), (3, .int (nI i))]) hx hb d_K_waits_46 rfl hl (by decide) rfl (fun ls hl => ?_)
              refine lv_iinc (v := (nI (i + 1))) (lv' := [(3, .int (nI (i + 1))), (2, .int (lf - 1)), (0, .ref (an 0))]) hx hb d_K_waits_47 hl (k := 2) rfl (q_inc _) (by decide) rfl (fun ls hl => ?_)
              refine lv_goto (tgt := 9) hx hb d_K_waits_50 (by decide) ?_
              exact ih (i + 1) (lf - 1) (by omega) (by omega) (by rw [hlf, cntN_t (P := (wnoR h o nb)) (by simp [c1, c2, c4, c5]), sub_cnt]) (pickN_pass hp (sub0n (by rw [← hlf]; assumption))) _ (lv_sub hl [2, 1, 0] rfl)
          · refine lv_iload_n hx hb d_K_waits_29 rfl (lv_at hl 2 rfl) ?_
            exact hret _ _ _ _ _ (by rw [pickN_hit (i := i) (by omega) hp (by simp [c1, c2, c4]) (sub0 (by rw [← hlf]; assumption)) (by omega)]) hP hS d_K_waits_30
  exact lp9 (nx + 1) 0 x (Nat.zero_le _) (by omega) (Int32.sub_zero _).symm rfl _ (lv_sub hl [2, 1, 0] rfl)
