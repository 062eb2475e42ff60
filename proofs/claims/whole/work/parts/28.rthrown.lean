set_option maxHeartbeats 4000000 in
set_option maxRecDepth 100000 in
theorem c_K_bill_t (l : Launch) (D : va_G) (an : Nat → Nat) (kn : Nat → ClassId) (h : Nat → Nat → Int32) (o : Nat → Bool) (u : Nat → Int32) (nb : Nat) (hnb : u 1 = nI nb) (hb6 : nb ≤ 60) (x y q : Int32) (t9 : Int32) (hT : bilT nb x y = t9) (h0 : ¬ t9 = 0) : WRi l y_K_bill (.code y_K_bill b_K_bill 4 (some .int) :: TB) ({ frames := 1, cells := 0, slots := 0, locals := 24 } : Room) [.ref (an 0), .int x, .int y, .int q] D classes (wK an kn h o u) (wK an kn h o (upd u 0 t9)) (tK kn) (0) := by
  refine wr_of (by decide +kernel) (rfl) (Nat.le_of_ble_eq_true rfl) ?_
  intro p e s m args below meth c Q ls A hx hb hml htb hown hP hK hD hS hA hl hret
  have hl : lv_has ls 4 [(0, .ref (an 0)), (1, .int x), (2, .int y), (3, .int q)] := hl
  refine lv_aload_n hx hb d_K_bill_0 rfl (lv_at hl 0 rfl) ?_
  refine lv_iload_n hx hb d_K_bill_1 rfl (lv_at hl 1 rfl) ?_
  refine lv_iconst (v := 0) hx hb d_K_bill_2 (by decide) ?_
  refine lv_iconst (v := 3) hx hb d_K_bill_3 (by decide) ?_
  refine rdS (As := [.int x, .int 0, .int 3]) (rest := [.ref (an 0)]) ⟨hx, hb, hml, hown, htb⟩ (c_K_in l D (wK an kn h o u) (tK kn) x 0 3) (va_cwS 3 htb (gS tb_good mw_672 mw_673 mw_31 mw_674) rfl rfl rfl (by decide +kernel) ⟨Nat.le_of_ble_eq_true rfl, Nat.le_of_ble_eq_true rfl⟩) hP hK rfl hl.1 rfl (lv_room (Nat.le_of_ble_eq_true rfl)) d_K_bill_4 ⟨Nat.zero_le _, Nat.zero_le _⟩ ?_
  refine lv_if_eq (tgt := 20) hx hb d_K_bill_7 (by decide) (fun c1 => ?_) (fun c1 => ?_)
  · replace c1 := bI_f c1
    refine lv_iconst (v := 1) hx hb d_K_bill_20 (by decide) ?_
    refine lv_goto (tgt := 38) hx hb d_K_bill_21 (by decide) ?_
    refine va_put (D := D) (ci := 4) (v := .int 1) (ty := .int) (C := R_K) (T := F_K) (N := 22) hx hb htb iw_K t_K t_K_ok n_K hown hK hP hD hS 0 rfl rfl 0 (by decide) (htb _ mw_596) (fun _ h9 => h9) rfl (by decide +kernel) rfl rfl (Nat.le_of_ble_eq_true rfl) d_K_bill_38 (fun H locs hP hD hS => ?_)
    have hP : va_P D classes (wK an kn h o (upd u 0 1)) H := hP
    have hD : va_D A (wK an kn h o (upd u 0 1)) := hD
    refine lv_aload_n hx hb d_K_bill_41 rfl (lv_at hl 0 rfl) ?_
    refine va_get (D := D) (ci := 4) (v := .int 1) (C := R_K) (T := F_K) (N := 22) hx hb htb iw_K hown hK hP 0 rfl rfl 0 (by decide) (htb _ mw_596) (fun _ h9 => h9) rfl d_K_bill_42 ?_
    refine lv_if_le (tgt := 50) hx hb d_K_bill_45 (by decide) (fun c2 => ?_) (fun c2 => ?_)
    · exact absurd c2 (by decide)
    · refine lv_iconst (v := 0) hx hb d_K_bill_48 (by decide) ?_
      exact hret _ _ _ _ _ rfl (by rw [show t9 = 1 from hT.symm.trans (by simp [bilT, c1, c2])]; exact hP) hS d_K_bill_49
  · replace c1 := bI_t c1
    refine lv_iload_n hx hb d_K_bill_10 rfl (lv_at hl 2 rfl) ?_
    refine lv_iconst (v := 0) hx hb d_K_bill_11 (by decide) ?_
    refine lv_ldc (v := 99999999) hx hb hown (htb _ mw_675) d_K_bill_12 ?_
    refine rdS (As := [.int y, .int 0, .int 99999999]) (rest := [.ref (an 0)]) ⟨hx, hb, hml, hown, htb⟩ (c_K_in l D (wK an kn h o u) (tK kn) y 0 99999999) (va_cwS 3 htb (gS tb_good mw_672 mw_673 mw_31 mw_674) rfl rfl rfl (by decide +kernel) ⟨Nat.le_of_ble_eq_true rfl, Nat.le_of_ble_eq_true rfl⟩) hP hK rfl hl.1 rfl (lv_room (Nat.le_of_ble_eq_true rfl)) d_K_bill_14 ⟨Nat.zero_le _, Nat.zero_le _⟩ ?_
    refine lv_if_ne (tgt := 24) hx hb d_K_bill_17 (by decide) (fun c3 => ?_) (fun c3 => ?_)
    · replace c3 := bI_t c3
      refine lv_aload_n hx hb d_K_bill_24 rfl (lv_at hl 0 rfl) ?_
      refine va_get (D := D) (ci := 4) (v := .int (nI nb)) (C := R_K) (T := F_K) (N := 22) hx hb htb iw_K hown hK hP 0 rfl rfl 1 (by decide) (htb _ mw_597) (fun _ h9 => h9) (congrArg (fun x => some (Value.int x)) hnb) d_K_bill_25 ?_
      refine lv_bipush (v := 60) hx hb d_K_bill_28 (by decide) ?_
      refine q_icmp_ne (a := nb) (b := 60) (tgt := 37) hx hb (by omega) (by omega) d_K_bill_30 (by decide) (fun c4 => ?_) (fun c4 => ?_)
      · refine lv_iconst (v := 0) hx hb d_K_bill_37 (by decide) ?_
        refine va_put (D := D) (ci := 4) (v := .int 0) (ty := .int) (C := R_K) (T := F_K) (N := 22) hx hb htb iw_K t_K t_K_ok n_K hown hK hP hD hS 0 rfl rfl 0 (by decide) (htb _ mw_596) (fun _ h9 => h9) rfl (by decide +kernel) rfl rfl (Nat.le_of_ble_eq_true rfl) d_K_bill_38 (fun H locs hP hD hS => ?_)
        have hP : va_P D classes (wK an kn h o (upd u 0 0)) H := hP
        have hD : va_D A (wK an kn h o (upd u 0 0)) := hD
        exact absurd (hT.symm.trans (by simp [bilT, c1, c3, if_neg c4])) h0
      · refine lv_iconst (v := 2) hx hb d_K_bill_33 (by decide) ?_
        refine lv_goto (tgt := 38) hx hb d_K_bill_34 (by decide) ?_
        refine va_put (D := D) (ci := 4) (v := .int 2) (ty := .int) (C := R_K) (T := F_K) (N := 22) hx hb htb iw_K t_K t_K_ok n_K hown hK hP hD hS 0 rfl rfl 0 (by decide) (htb _ mw_596) (fun _ h9 => h9) rfl (by decide +kernel) rfl rfl (Nat.le_of_ble_eq_true rfl) d_K_bill_38 (fun H locs hP hD hS => ?_)
        have hP : va_P D classes (wK an kn h o (upd u 0 2)) H := hP
        have hD : va_D A (wK an kn h o (upd u 0 2)) := hD
        refine lv_aload_n hx hb d_K_bill_41 rfl (lv_at hl 0 rfl) ?_
        refine va_get (D := D) (ci := 4) (v := .int 2) (C := R_K) (T := F_K) (N := 22) hx hb htb iw_K hown hK hP 0 rfl rfl 0 (by decide) (htb _ mw_596) (fun _ h9 => h9) rfl d_K_bill_42 ?_
        refine lv_if_le (tgt := 50) hx hb d_K_bill_45 (by decide) (fun c5 => ?_) (fun c5 => ?_)
        · exact absurd c5 (by decide)
        · refine lv_iconst (v := 0) hx hb d_K_bill_48 (by decide) ?_
          exact hret _ _ _ _ _ rfl (by rw [show t9 = 2 from hT.symm.trans (by simp [bilT, c1, c3, if_pos c4, c5])]; exact hP) hS d_K_bill_49
    · replace c3 := bI_f c3
      refine lv_iconst (v := 1) hx hb d_K_bill_20 (by decide) ?_
      refine lv_goto (tgt := 38) hx hb d_K_bill_21 (by decide) ?_
      refine va_put (D := D) (ci := 4) (v := .int 1) (ty := .int) (C := R_K) (T := F_K) (N := 22) hx hb htb iw_K t_K t_K_ok n_K hown hK hP hD hS 0 rfl rfl 0 (by decide) (htb _ mw_596) (fun _ h9 => h9) rfl (by decide +kernel) rfl rfl (Nat.le_of_ble_eq_true rfl) d_K_bill_38 (fun H locs hP hD hS => ?_)
      have hP : va_P D classes (wK an kn h o (upd u 0 1)) H := hP
      have hD : va_D A (wK an kn h o (upd u 0 1)) := hD
      refine lv_aload_n hx hb d_K_bill_41 rfl (lv_at hl 0 rfl) ?_
      refine va_get (D := D) (ci := 4) (v := .int 1) (C := R_K) (T := F_K) (N := 22) hx hb htb iw_K hown hK hP 0 rfl rfl 0 (by decide) (htb _ mw_596) (fun _ h9 => h9) rfl d_K_bill_42 ?_
      refine lv_if_le (tgt := 50) hx hb d_K_bill_45 (by decide) (fun c6 => ?_) (fun c6 => ?_)
      · exact absurd c6 (by decide)
      · refine lv_iconst (v := 0) hx hb d_K_bill_48 (by decide) ?_
        exact hret _ _ _ _ _ rfl (by rw [show t9 = 1 from hT.symm.trans (by simp [bilT, c1, c3, c6])]; exact hP) hS d_K_bill_49
set_option maxHeartbeats 4000000 in
set_option maxRecDepth 100000 in
theorem c_K_line_t (l : Launch) (D : va_G) (an : Nat → Nat) (kn : Nat → ClassId) (h : Nat → Nat → Int32) (o : Nat → Bool) (u : Nat → Int32) (nb : Nat) (hnb : u 1 = nI nb) (hb6 : nb ≤ 60) (nl : Nat) (hnl : u 3 = nI nl) (hl2 : nl ≤ 200) (x y q : Int32) (t9 : Int32) (hT : linT nb nl x y q = t9) (h0 : ¬ t9 = 0) : WRi l y_K_line (.code y_K_line b_K_line 4 (some .int) :: TB) ({ frames := 2, cells := 0, slots := 0, locals := 46 } : Room) [.ref (an 0), .int x, .int y, .int q] D classes (wK an kn h o u) (wK an kn h o (upd u 0 t9)) (tK kn) (0) := by
  refine wr_of (by decide +kernel) (rfl) (Nat.le_of_ble_eq_true rfl) ?_
  intro p e s m args below meth c Q ls A hx hb hml htb hown hP hK hD hS hA hl hret
  have hl : lv_has ls 4 [(0, .ref (an 0)), (1, .int x), (2, .int y), (3, .int q)] := hl
  refine lv_aload_n hx hb d_K_line_0 rfl (lv_at hl 0 rfl) ?_
  refine lv_aload_n hx hb d_K_line_1 rfl (lv_at hl 0 rfl) ?_
  refine lv_iload_n hx hb d_K_line_2 rfl (lv_at hl 1 rfl) ?_
  refine rdV (As := [.int x]) (rest := [.ref (an 0)]) (b := an 0) ⟨hx, hb, hml, hown, htb⟩ (c_K_isBill l D an kn h o u nb hnb hb6 x) (cwV (C := R_K) 1 htb (gV tb_good mw_680 mw_682 mw_6 mw_31 mw_683) rfl rfl rfl (by decide +kernel) ⟨Nat.le_of_ble_eq_true rfl, Nat.le_of_ble_eq_true rfl⟩) hP hK (va_recv hK hP (ci := 4) (q0 := 0) rfl rfl) rfl hl.1 rfl (lv_room (Nat.le_of_ble_eq_true rfl)) d_K_line_3 ⟨Nat.zero_le _, Nat.zero_le _⟩ ?_
  refine lv_if_eq (tgt := 30) hx hb d_K_line_6 (by decide) (fun c1 => ?_) (fun c1 => ?_)
  · replace c1 := bI_f c1
    refine lv_iconst (v := 1) hx hb d_K_line_30 (by decide) ?_
    refine lv_goto (tgt := 49) hx hb d_K_line_31 (by decide) ?_
    refine va_put (D := D) (ci := 4) (v := .int 1) (ty := .int) (C := R_K) (T := F_K) (N := 22) hx hb htb iw_K t_K t_K_ok n_K hown hK hP hD hS 0 rfl rfl 0 (by decide) (htb _ mw_596) (fun _ h9 => h9) rfl (by decide +kernel) rfl rfl (Nat.le_of_ble_eq_true rfl) d_K_line_49 (fun H locs hP hD hS => ?_)
    have hP : va_P D classes (wK an kn h o (upd u 0 1)) H := hP
    have hD : va_D A (wK an kn h o (upd u 0 1)) := hD
    refine lv_aload_n hx hb d_K_line_52 rfl (lv_at hl 0 rfl) ?_
    refine va_get (D := D) (ci := 4) (v := .int 1) (C := R_K) (T := F_K) (N := 22) hx hb htb iw_K hown hK hP 0 rfl rfl 0 (by decide) (htb _ mw_596) (fun _ h9 => h9) rfl d_K_line_53 ?_
    refine lv_if_le (tgt := 63) hx hb d_K_line_56 (by decide) (fun c2 => ?_) (fun c2 => ?_)
    · exact absurd c2 (by decide)
    · refine lv_iconst (v := 0) hx hb d_K_line_59 (by decide) ?_
      refine lv_goto (tgt := 70) hx hb d_K_line_60 (by decide) ?_
      exact hret _ _ _ _ _ rfl (by rw [show t9 = 1 from hT.symm.trans (by simp [linT, c1, c2])]; exact hP) hS d_K_line_70
  · replace c1 := bI_t c1
    refine lv_iload_n hx hb d_K_line_9 rfl (lv_at hl 2 rfl) ?_
    refine lv_iconst (v := 0) hx hb d_K_line_10 (by decide) ?_
    refine lv_ldc (v := 1000000) hx hb hown (htb _ mw_696) d_K_line_11 ?_
    refine rdS (As := [.int y, .int 0, .int 1000000]) (rest := [.ref (an 0)]) ⟨hx, hb, hml, hown, htb⟩ (c_K_in l D (wK an kn h o u) (tK kn) y 0 1000000) (va_cwS 3 htb (gS tb_good mw_672 mw_673 mw_31 mw_674) rfl rfl rfl (by decide +kernel) ⟨Nat.le_of_ble_eq_true rfl, Nat.le_of_ble_eq_true rfl⟩) hP hK rfl hl.1 rfl (lv_room (Nat.le_of_ble_eq_true rfl)) d_K_line_13 ⟨Nat.zero_le _, Nat.zero_le _⟩ ?_
    refine lv_if_eq (tgt := 30) hx hb d_K_line_16 (by decide) (fun c3 => ?_) (fun c3 => ?_)
    · replace c3 := bI_f c3
      refine lv_iconst (v := 1) hx hb d_K_line_30 (by decide) ?_
      refine lv_goto (tgt := 49) hx hb d_K_line_31 (by decide) ?_
      refine va_put (D := D) (ci := 4) (v := .int 1) (ty := .int) (C := R_K) (T := F_K) (N := 22) hx hb htb iw_K t_K t_K_ok n_K hown hK hP hD hS 0 rfl rfl 0 (by decide) (htb _ mw_596) (fun _ h9 => h9) rfl (by decide +kernel) rfl rfl (Nat.le_of_ble_eq_true rfl) d_K_line_49 (fun H locs hP hD hS => ?_)
      have hP : va_P D classes (wK an kn h o (upd u 0 1)) H := hP
      have hD : va_D A (wK an kn h o (upd u 0 1)) := hD
      refine lv_aload_n hx hb d_K_line_52 rfl (lv_at hl 0 rfl) ?_
      refine va_get (D := D) (ci := 4) (v := .int 1) (C := R_K) (T := F_K) (N := 22) hx hb htb iw_K hown hK hP 0 rfl rfl 0 (by decide) (htb _ mw_596) (fun _ h9 => h9) rfl d_K_line_53 ?_
      refine lv_if_le (tgt := 63) hx hb d_K_line_56 (by decide) (fun c4 => ?_) (fun c4 => ?_)
      · exact absurd c4 (by decide)
      · refine lv_iconst (v := 0) hx hb d_K_line_59 (by decide) ?_
        refine lv_goto (tgt := 70) hx hb d_K_line_60 (by decide) ?_
        exact hret _ _ _ _ _ rfl (by rw [show t9 = 1 from hT.symm.trans (by simp [linT, c1, c3, c4])]; exact hP) hS d_K_line_70
    · replace c3 := bI_t c3
      refine lv_iload_n hx hb d_K_line_19 rfl (lv_at hl 3 rfl) ?_
      refine lv_iconst (v := 0) hx hb d_K_line_20 (by decide) ?_
      refine lv_sipush (v := 10000) hx hb d_K_line_21 (by decide) ?_
      refine rdS (As := [.int q, .int 0, .int 10000]) (rest := [.ref (an 0)]) ⟨hx, hb, hml, hown, htb⟩ (c_K_in l D (wK an kn h o u) (tK kn) q 0 10000) (va_cwS 3 htb (gS tb_good mw_672 mw_673 mw_31 mw_674) rfl rfl rfl (by decide +kernel) ⟨Nat.le_of_ble_eq_true rfl, Nat.le_of_ble_eq_true rfl⟩) hP hK rfl hl.1 rfl (lv_room (Nat.le_of_ble_eq_true rfl)) d_K_line_24 ⟨Nat.zero_le _, Nat.zero_le _⟩ ?_
      refine lv_if_ne (tgt := 34) hx hb d_K_line_27 (by decide) (fun c5 => ?_) (fun c5 => ?_)
      · replace c5 := bI_t c5
        refine lv_aload_n hx hb d_K_line_34 rfl (lv_at hl 0 rfl) ?_
        refine va_get (D := D) (ci := 4) (v := .int (nI nl)) (C := R_K) (T := F_K) (N := 22) hx hb htb iw_K hown hK hP 0 rfl rfl 3 (by decide) (htb _ mw_599) (fun _ h9 => h9) (congrArg (fun x => some (Value.int x)) hnl) d_K_line_35 ?_
        refine lv_sipush (v := 200) hx hb d_K_line_38 (by decide) ?_
        refine q_icmp_ne (a := nl) (b := 200) (tgt := 48) hx hb (by omega) (by omega) d_K_line_41 (by decide) (fun c6 => ?_) (fun c6 => ?_)
        · refine lv_iconst (v := 0) hx hb d_K_line_48 (by decide) ?_
          refine va_put (D := D) (ci := 4) (v := .int 0) (ty := .int) (C := R_K) (T := F_K) (N := 22) hx hb htb iw_K t_K t_K_ok n_K hown hK hP hD hS 0 rfl rfl 0 (by decide) (htb _ mw_596) (fun _ h9 => h9) rfl (by decide +kernel) rfl rfl (Nat.le_of_ble_eq_true rfl) d_K_line_49 (fun H locs hP hD hS => ?_)
          have hP : va_P D classes (wK an kn h o (upd u 0 0)) H := hP
          have hD : va_D A (wK an kn h o (upd u 0 0)) := hD
          exact absurd (hT.symm.trans (by simp [linT, c1, c3, c5, if_neg c6])) h0
        · refine lv_iconst (v := 2) hx hb d_K_line_44 (by decide) ?_
          refine lv_goto (tgt := 49) hx hb d_K_line_45 (by decide) ?_
          refine va_put (D := D) (ci := 4) (v := .int 2) (ty := .int) (C := R_K) (T := F_K) (N := 22) hx hb htb iw_K t_K t_K_ok n_K hown hK hP hD hS 0 rfl rfl 0 (by decide) (htb _ mw_596) (fun _ h9 => h9) rfl (by decide +kernel) rfl rfl (Nat.le_of_ble_eq_true rfl) d_K_line_49 (fun H locs hP hD hS => ?_)
          have hP : va_P D classes (wK an kn h o (upd u 0 2)) H := hP
          have hD : va_D A (wK an kn h o (upd u 0 2)) := hD
          refine lv_aload_n hx hb d_K_line_52 rfl (lv_at hl 0 rfl) ?_
          refine va_get (D := D) (ci := 4) (v := .int 2) (C := R_K) (T := F_K) (N := 22) hx hb htb iw_K hown hK hP 0 rfl rfl 0 (by decide) (htb _ mw_596) (fun _ h9 => h9) rfl d_K_line_53 ?_
          refine lv_if_le (tgt := 63) hx hb d_K_line_56 (by decide) (fun c7 => ?_) (fun c7 => ?_)
          · exact absurd c7 (by decide)
          · refine lv_iconst (v := 0) hx hb d_K_line_59 (by decide) ?_
            refine lv_goto (tgt := 70) hx hb d_K_line_60 (by decide) ?_
            exact hret _ _ _ _ _ rfl (by rw [show t9 = 2 from hT.symm.trans (by simp [linT, c1, c3, c5, if_pos c6, c7])]; exact hP) hS d_K_line_70
      · replace c5 := bI_f c5
        refine lv_iconst (v := 1) hx hb d_K_line_30 (by decide) ?_
        refine lv_goto (tgt := 49) hx hb d_K_line_31 (by decide) ?_
        refine va_put (D := D) (ci := 4) (v := .int 1) (ty := .int) (C := R_K) (T := F_K) (N := 22) hx hb htb iw_K t_K t_K_ok n_K hown hK hP hD hS 0 rfl rfl 0 (by decide) (htb _ mw_596) (fun _ h9 => h9) rfl (by decide +kernel) rfl rfl (Nat.le_of_ble_eq_true rfl) d_K_line_49 (fun H locs hP hD hS => ?_)
        have hP : va_P D classes (wK an kn h o (upd u 0 1)) H := hP
        have hD : va_D A (wK an kn h o (upd u 0 1)) := hD
        refine lv_aload_n hx hb d_K_line_52 rfl (lv_at hl 0 rfl) ?_
        refine va_get (D := D) (ci := 4) (v := .int 1) (C := R_K) (T := F_K) (N := 22) hx hb htb iw_K hown hK hP 0 rfl rfl 0 (by decide) (htb _ mw_596) (fun _ h9 => h9) rfl d_K_line_53 ?_
        refine lv_if_le (tgt := 63) hx hb d_K_line_56 (by decide) (fun c8 => ?_) (fun c8 => ?_)
        · exact absurd c8 (by decide)
        · refine lv_iconst (v := 0) hx hb d_K_line_59 (by decide) ?_
          refine lv_goto (tgt := 70) hx hb d_K_line_60 (by decide) ?_
          exact hret _ _ _ _ _ rfl (by rw [show t9 = 1 from hT.symm.trans (by simp [linT, c1, c3, c5, c8])]; exact hP) hS d_K_line_70
set_option maxHeartbeats 4000000 in
set_option maxRecDepth 100000 in
theorem c_K_box_t (l : Launch) (D : va_G) (an : Nat → Nat) (kn : Nat → ClassId) (h : Nat → Nat → Int32) (o : Nat → Bool) (u : Nat → Int32) (nx : Nat) (hnx : u 2 = nI nx) (hx6 : nx ≤ 60) (x y q : Int32) (t9 : Int32) (hT : boxT nx x y q = t9) (h0 : ¬ t9 = 0) : WRi l y_K_box (.code y_K_box b_K_box 5 (some .int) :: TB) ({ frames := 1, cells := 0, slots := 0, locals := 22 } : Room) [.ref (an 0), .int x, .int y, .int q] D classes (wK an kn h o u) (wK an kn h o (upd u 0 t9)) (tK kn) (0) := by
  refine wr_of (by decide +kernel) (rfl) (Nat.le_of_ble_eq_true rfl) ?_
  intro p e s m args below meth c Q ls A hx hb hml htb hown hP hK hD hS hA hl hret
  have hl : lv_has ls 5 [(0, .ref (an 0)), (1, .int x), (2, .int y), (3, .int q)] := hl
  refine lv_aload_n hx hb d_K_box_0 rfl (lv_at hl 0 rfl) ?_
  refine lv_iload_n hx hb d_K_box_1 rfl (lv_at hl 1 rfl) ?_
  refine lv_iconst (v := 0) hx hb d_K_box_2 (by decide) ?_
  refine lv_iconst (v := 3) hx hb d_K_box_3 (by decide) ?_
  refine rdS (As := [.int x, .int 0, .int 3]) (rest := [.ref (an 0)]) ⟨hx, hb, hml, hown, htb⟩ (c_K_in l D (wK an kn h o u) (tK kn) x 0 3) (va_cwS 3 htb (gS tb_good mw_672 mw_673 mw_31 mw_674) rfl rfl rfl (by decide +kernel) ⟨Nat.le_of_ble_eq_true rfl, Nat.le_of_ble_eq_true rfl⟩) hP hK rfl hl.1 rfl (lv_room (Nat.le_of_ble_eq_true rfl)) d_K_box_4 ⟨Nat.zero_le _, Nat.zero_le _⟩ ?_
  refine lv_if_eq (tgt := 30) hx hb d_K_box_7 (by decide) (fun c1 => ?_) (fun c1 => ?_)
  · replace c1 := bI_f c1
    refine lv_iconst (v := 1) hx hb d_K_box_30 (by decide) ?_
    refine lv_goto (tgt := 48) hx hb d_K_box_31 (by decide) ?_
    refine va_put (D := D) (ci := 4) (v := .int 1) (ty := .int) (C := R_K) (T := F_K) (N := 22) hx hb htb iw_K t_K t_K_ok n_K hown hK hP hD hS 0 rfl rfl 0 (by decide) (htb _ mw_596) (fun _ h9 => h9) rfl (by decide +kernel) rfl rfl (Nat.le_of_ble_eq_true rfl) d_K_box_48 (fun H locs hP hD hS => ?_)
    have hP : va_P D classes (wK an kn h o (upd u 0 1)) H := hP
    have hD : va_D A (wK an kn h o (upd u 0 1)) := hD
    refine lv_aload_n hx hb d_K_box_51 rfl (lv_at hl 0 rfl) ?_
    refine va_get (D := D) (ci := 4) (v := .int 1) (C := R_K) (T := F_K) (N := 22) hx hb htb iw_K hown hK hP 0 rfl rfl 0 (by decide) (htb _ mw_596) (fun _ h9 => h9) rfl d_K_box_52 ?_
    refine lv_if_le (tgt := 60) hx hb d_K_box_55 (by decide) (fun c2 => ?_) (fun c2 => ?_)
    · exact absurd c2 (by decide)
    · refine lv_iconst (v := 0) hx hb d_K_box_58 (by decide) ?_
      exact hret _ _ _ _ _ rfl (by rw [show t9 = 1 from hT.symm.trans (by simp [boxT, c1, c2])]; exact hP) hS d_K_box_59
  · replace c1 := bI_t c1
    refine lv_iload_n hx hb d_K_box_10 rfl (lv_at hl 2 rfl) ?_
    refine lv_iconst (v := 0) hx hb d_K_box_11 (by decide) ?_
    refine lv_ldc (v := 99999999) hx hb hown (htb _ mw_675) d_K_box_12 ?_
    refine rdS (As := [.int y, .int 0, .int 99999999]) (rest := [.ref (an 0)]) ⟨hx, hb, hml, hown, htb⟩ (c_K_in l D (wK an kn h o u) (tK kn) y 0 99999999) (va_cwS 3 htb (gS tb_good mw_672 mw_673 mw_31 mw_674) rfl rfl rfl (by decide +kernel) ⟨Nat.le_of_ble_eq_true rfl, Nat.le_of_ble_eq_true rfl⟩) hP hK rfl hl.1 rfl (lv_room (Nat.le_of_ble_eq_true rfl)) d_K_box_14 ⟨Nat.zero_le _, Nat.zero_le _⟩ ?_
    refine lv_if_eq (tgt := 30) hx hb d_K_box_17 (by decide) (fun c3 => ?_) (fun c3 => ?_)
    · replace c3 := bI_f c3
      refine lv_iconst (v := 1) hx hb d_K_box_30 (by decide) ?_
      refine lv_goto (tgt := 48) hx hb d_K_box_31 (by decide) ?_
      refine va_put (D := D) (ci := 4) (v := .int 1) (ty := .int) (C := R_K) (T := F_K) (N := 22) hx hb htb iw_K t_K t_K_ok n_K hown hK hP hD hS 0 rfl rfl 0 (by decide) (htb _ mw_596) (fun _ h9 => h9) rfl (by decide +kernel) rfl rfl (Nat.le_of_ble_eq_true rfl) d_K_box_48 (fun H locs hP hD hS => ?_)
      have hP : va_P D classes (wK an kn h o (upd u 0 1)) H := hP
      have hD : va_D A (wK an kn h o (upd u 0 1)) := hD
      refine lv_aload_n hx hb d_K_box_51 rfl (lv_at hl 0 rfl) ?_
      refine va_get (D := D) (ci := 4) (v := .int 1) (C := R_K) (T := F_K) (N := 22) hx hb htb iw_K hown hK hP 0 rfl rfl 0 (by decide) (htb _ mw_596) (fun _ h9 => h9) rfl d_K_box_52 ?_
      refine lv_if_le (tgt := 60) hx hb d_K_box_55 (by decide) (fun c4 => ?_) (fun c4 => ?_)
      · exact absurd c4 (by decide)
      · refine lv_iconst (v := 0) hx hb d_K_box_58 (by decide) ?_
        exact hret _ _ _ _ _ rfl (by rw [show t9 = 1 from hT.symm.trans (by simp [boxT, c1, c3, c4])]; exact hP) hS d_K_box_59
    · replace c3 := bI_t c3
      refine lv_iload_n hx hb d_K_box_20 rfl (lv_at hl 3 rfl) ?_
      refine lv_iconst (v := 0) hx hb d_K_box_21 (by decide) ?_
      refine lv_ldc (v := 1000000) hx hb hown (htb _ mw_696) d_K_box_22 ?_
      refine rdS (As := [.int q, .int 0, .int 1000000]) (rest := [.ref (an 0)]) ⟨hx, hb, hml, hown, htb⟩ (c_K_in l D (wK an kn h o u) (tK kn) q 0 1000000) (va_cwS 3 htb (gS tb_good mw_672 mw_673 mw_31 mw_674) rfl rfl rfl (by decide +kernel) ⟨Nat.le_of_ble_eq_true rfl, Nat.le_of_ble_eq_true rfl⟩) hP hK rfl hl.1 rfl (lv_room (Nat.le_of_ble_eq_true rfl)) d_K_box_24 ⟨Nat.zero_le _, Nat.zero_le _⟩ ?_
      refine lv_if_ne (tgt := 34) hx hb d_K_box_27 (by decide) (fun c5 => ?_) (fun c5 => ?_)
      · replace c5 := bI_t c5
        refine lv_aload_n hx hb d_K_box_34 rfl (lv_at hl 0 rfl) ?_
        refine va_get (D := D) (ci := 4) (v := .int (nI nx)) (C := R_K) (T := F_K) (N := 22) hx hb htb iw_K hown hK hP 0 rfl rfl 2 (by decide) (htb _ mw_598) (fun _ h9 => h9) (congrArg (fun x => some (Value.int x)) hnx) d_K_box_35 ?_
        refine lv_bipush (v := 60) hx hb d_K_box_38 (by decide) ?_
        refine q_icmp_ne (a := nx) (b := 60) (tgt := 47) hx hb (by omega) (by omega) d_K_box_40 (by decide) (fun c6 => ?_) (fun c6 => ?_)
        · refine lv_iconst (v := 0) hx hb d_K_box_47 (by decide) ?_
          refine va_put (D := D) (ci := 4) (v := .int 0) (ty := .int) (C := R_K) (T := F_K) (N := 22) hx hb htb iw_K t_K t_K_ok n_K hown hK hP hD hS 0 rfl rfl 0 (by decide) (htb _ mw_596) (fun _ h9 => h9) rfl (by decide +kernel) rfl rfl (Nat.le_of_ble_eq_true rfl) d_K_box_48 (fun H locs hP hD hS => ?_)
          have hP : va_P D classes (wK an kn h o (upd u 0 0)) H := hP
          have hD : va_D A (wK an kn h o (upd u 0 0)) := hD
          exact absurd (hT.symm.trans (by simp [boxT, c1, c3, c5, if_neg c6])) h0
        · refine lv_iconst (v := 2) hx hb d_K_box_43 (by decide) ?_
          refine lv_goto (tgt := 48) hx hb d_K_box_44 (by decide) ?_
          refine va_put (D := D) (ci := 4) (v := .int 2) (ty := .int) (C := R_K) (T := F_K) (N := 22) hx hb htb iw_K t_K t_K_ok n_K hown hK hP hD hS 0 rfl rfl 0 (by decide) (htb _ mw_596) (fun _ h9 => h9) rfl (by decide +kernel) rfl rfl (Nat.le_of_ble_eq_true rfl) d_K_box_48 (fun H locs hP hD hS => ?_)
          have hP : va_P D classes (wK an kn h o (upd u 0 2)) H := hP
          have hD : va_D A (wK an kn h o (upd u 0 2)) := hD
          refine lv_aload_n hx hb d_K_box_51 rfl (lv_at hl 0 rfl) ?_
          refine va_get (D := D) (ci := 4) (v := .int 2) (C := R_K) (T := F_K) (N := 22) hx hb htb iw_K hown hK hP 0 rfl rfl 0 (by decide) (htb _ mw_596) (fun _ h9 => h9) rfl d_K_box_52 ?_
          refine lv_if_le (tgt := 60) hx hb d_K_box_55 (by decide) (fun c7 => ?_) (fun c7 => ?_)
          · exact absurd c7 (by decide)
          · refine lv_iconst (v := 0) hx hb d_K_box_58 (by decide) ?_
            exact hret _ _ _ _ _ rfl (by rw [show t9 = 2 from hT.symm.trans (by simp [boxT, c1, c3, c5, if_pos c6, c7])]; exact hP) hS d_K_box_59
      · replace c5 := bI_f c5
        refine lv_iconst (v := 1) hx hb d_K_box_30 (by decide) ?_
        refine lv_goto (tgt := 48) hx hb d_K_box_31 (by decide) ?_
        refine va_put (D := D) (ci := 4) (v := .int 1) (ty := .int) (C := R_K) (T := F_K) (N := 22) hx hb htb iw_K t_K t_K_ok n_K hown hK hP hD hS 0 rfl rfl 0 (by decide) (htb _ mw_596) (fun _ h9 => h9) rfl (by decide +kernel) rfl rfl (Nat.le_of_ble_eq_true rfl) d_K_box_48 (fun H locs hP hD hS => ?_)
        have hP : va_P D classes (wK an kn h o (upd u 0 1)) H := hP
        have hD : va_D A (wK an kn h o (upd u 0 1)) := hD
        refine lv_aload_n hx hb d_K_box_51 rfl (lv_at hl 0 rfl) ?_
        refine va_get (D := D) (ci := 4) (v := .int 1) (C := R_K) (T := F_K) (N := 22) hx hb htb iw_K hown hK hP 0 rfl rfl 0 (by decide) (htb _ mw_596) (fun _ h9 => h9) rfl d_K_box_52 ?_
        refine lv_if_le (tgt := 60) hx hb d_K_box_55 (by decide) (fun c8 => ?_) (fun c8 => ?_)
        · exact absurd c8 (by decide)
        · refine lv_iconst (v := 0) hx hb d_K_box_58 (by decide) ?_
          exact hret _ _ _ _ _ rfl (by rw [show t9 = 1 from hT.symm.trans (by simp [boxT, c1, c3, c5, c8])]; exact hP) hS d_K_box_59
set_option maxHeartbeats 4000000 in
set_option maxRecDepth 100000 in
theorem c_K_amend_t (l : Launch) (D : va_G) (an : Nat → Nat) (kn : Nat → ClassId) (h : Nat → Nat → Int32) (o : Nat → Bool) (u : Nat → Int32) (nb : Nat) (hnb : u 1 = nI nb) (hb6 : nb ≤ 60) (nl : Nat) (hnl : u 3 = nI nl) (hl2 : nl ≤ 200) (x y q : Int32) (t9 : Int32) (hT : amdT h nb nl x y q = t9) (h0 : ¬ t9 = 0) : WRi l y_K_amend (.code y_K_amend b_K_amend 7 (some .int) :: TB) ({ frames := 1, cells := 0, slots := 0, locals := 24 } : Room) [.ref (an 0), .int x, .int y, .int q] D classes (wK an kn h o u) (wK an kn h o (upd u 0 t9)) (tK kn) (0) := by
  refine wr_of (by decide +kernel) (rfl) (Nat.le_of_ble_eq_true rfl) ?_
  intro p e s m args below meth c Q ls A hx hb hml htb hown hP hK hD hS hA hl hret
  have hl : lv_has ls 7 [(0, .ref (an 0)), (1, .int x), (2, .int y), (3, .int q)] := hl
  refine lv_aload_n hx hb d_K_amend_0 rfl (lv_at hl 0 rfl) ?_
  refine lv_aload_n hx hb d_K_amend_1 rfl (lv_at hl 0 rfl) ?_
  refine lv_iload_n hx hb d_K_amend_2 rfl (lv_at hl 1 rfl) ?_
  refine rdV (As := [.int x]) (rest := [.ref (an 0)]) (b := an 0) ⟨hx, hb, hml, hown, htb⟩ (c_K_isBill l D an kn h o u nb hnb hb6 x) (cwV (C := R_K) 1 htb (gV tb_good mw_680 mw_682 mw_6 mw_31 mw_683) rfl rfl rfl (by decide +kernel) ⟨Nat.le_of_ble_eq_true rfl, Nat.le_of_ble_eq_true rfl⟩) hP hK (va_recv hK hP (ci := 4) (q0 := 0) rfl rfl) rfl hl.1 rfl (lv_room (Nat.le_of_ble_eq_true rfl)) d_K_amend_3 ⟨Nat.zero_le _, Nat.zero_le _⟩ ?_
  refine lv_if_eq (tgt := 36) hx hb d_K_amend_6 (by decide) (fun c1 => ?_) (fun c1 => ?_)
  · replace c1 := bI_f c1
    refine lv_iconst (v := 1) hx hb d_K_amend_36 (by decide) ?_
    refine va_put (D := D) (ci := 4) (v := .int 1) (ty := .int) (C := R_K) (T := F_K) (N := 22) hx hb htb iw_K t_K t_K_ok n_K hown hK hP hD hS 0 rfl rfl 0 (by decide) (htb _ mw_596) (fun _ h9 => h9) rfl (by decide +kernel) rfl rfl (Nat.le_of_ble_eq_true rfl) d_K_amend_37 (fun H locs hP hD hS => ?_)
    have hP : va_P D classes (wK an kn h o (upd u 0 1)) H := hP
    have hD : va_D A (wK an kn h o (upd u 0 1)) := hD
    refine lv_aload_n hx hb d_K_amend_40 rfl (lv_at hl 0 rfl) ?_
    refine va_get (D := D) (ci := 4) (v := .int 1) (C := R_K) (T := F_K) (N := 22) hx hb htb iw_K hown hK hP 0 rfl rfl 0 (by decide) (htb _ mw_596) (fun _ h9 => h9) rfl d_K_amend_41 ?_
    refine lv_if_le (tgt := 49) hx hb d_K_amend_44 (by decide) (fun c2 => ?_) (fun c2 => ?_)
    · exact absurd c2 (by decide)
    · refine lv_iconst (v := 0) hx hb d_K_amend_47 (by decide) ?_
      exact hret _ _ _ _ _ rfl (by rw [show t9 = 1 from hT.symm.trans (by simp [amdT, c1, c2])]; exact hP) hS d_K_amend_48
  · replace c1 := bI_t c1
    refine lv_iload_n hx hb d_K_amend_9 rfl (lv_at hl 2 rfl) ?_
    refine lv_if_lt (tgt := 36) hx hb d_K_amend_10 (by decide) (fun c3 => ?_) (fun c3 => ?_)
    · refine lv_iconst (v := 1) hx hb d_K_amend_36 (by decide) ?_
      refine va_put (D := D) (ci := 4) (v := .int 1) (ty := .int) (C := R_K) (T := F_K) (N := 22) hx hb htb iw_K t_K t_K_ok n_K hown hK hP hD hS 0 rfl rfl 0 (by decide) (htb _ mw_596) (fun _ h9 => h9) rfl (by decide +kernel) rfl rfl (Nat.le_of_ble_eq_true rfl) d_K_amend_37 (fun H locs hP hD hS => ?_)
      have hP : va_P D classes (wK an kn h o (upd u 0 1)) H := hP
      have hD : va_D A (wK an kn h o (upd u 0 1)) := hD
      refine lv_aload_n hx hb d_K_amend_40 rfl (lv_at hl 0 rfl) ?_
      refine va_get (D := D) (ci := 4) (v := .int 1) (C := R_K) (T := F_K) (N := 22) hx hb htb iw_K hown hK hP 0 rfl rfl 0 (by decide) (htb _ mw_596) (fun _ h9 => h9) rfl d_K_amend_41 ?_
      refine lv_if_le (tgt := 49) hx hb d_K_amend_44 (by decide) (fun c4 => ?_) (fun c4 => ?_)
      · exact absurd c4 (by decide)
      · refine lv_iconst (v := 0) hx hb d_K_amend_47 (by decide) ?_
        exact hret _ _ _ _ _ rfl (by rw [show t9 = 1 from hT.symm.trans (by simp [amdT, c1, c3, c4])]; exact hP) hS d_K_amend_48
    · refine lv_iload_n hx hb d_K_amend_13 rfl (lv_at hl 2 rfl) ?_
      refine lv_aload_n hx hb d_K_amend_14 rfl (lv_at hl 0 rfl) ?_
      refine lv_iload_n hx hb d_K_amend_15 rfl (lv_at hl 1 rfl) ?_
      refine rdV (As := [.int x]) (rest := [.int y, .ref (an 0)]) (b := an 0) ⟨hx, hb, hml, hown, htb⟩ (c_K_linesOf l D an kn h o u nl hnl hl2 x) (cwV (C := R_K) 1 htb (gV tb_good mw_701 mw_703 mw_10 mw_31 mw_704) rfl rfl rfl (by decide +kernel) ⟨Nat.le_of_ble_eq_true rfl, Nat.le_of_ble_eq_true rfl⟩) hP hK (va_recv hK hP (ci := 4) (q0 := 0) rfl rfl) rfl hl.1 rfl (lv_room (Nat.le_of_ble_eq_true rfl)) d_K_amend_16 ⟨Nat.zero_le _, Nat.zero_le _⟩ ?_
      refine lv_icmp_ge (tgt := 36) hx hb d_K_amend_19 (by decide) (fun c5 => ?_) (fun c5 => ?_)
      · refine lv_iconst (v := 1) hx hb d_K_amend_36 (by decide) ?_
        refine va_put (D := D) (ci := 4) (v := .int 1) (ty := .int) (C := R_K) (T := F_K) (N := 22) hx hb htb iw_K t_K t_K_ok n_K hown hK hP hD hS 0 rfl rfl 0 (by decide) (htb _ mw_596) (fun _ h9 => h9) rfl (by decide +kernel) rfl rfl (Nat.le_of_ble_eq_true rfl) d_K_amend_37 (fun H locs hP hD hS => ?_)
        have hP : va_P D classes (wK an kn h o (upd u 0 1)) H := hP
        have hD : va_D A (wK an kn h o (upd u 0 1)) := hD
        refine lv_aload_n hx hb d_K_amend_40 rfl (lv_at hl 0 rfl) ?_
        refine va_get (D := D) (ci := 4) (v := .int 1) (C := R_K) (T := F_K) (N := 22) hx hb htb iw_K hown hK hP 0 rfl rfl 0 (by decide) (htb _ mw_596) (fun _ h9 => h9) rfl d_K_amend_41 ?_
        refine lv_if_le (tgt := 49) hx hb d_K_amend_44 (by decide) (fun c6 => ?_) (fun c6 => ?_)
        · exact absurd c6 (by decide)
        · refine lv_iconst (v := 0) hx hb d_K_amend_47 (by decide) ?_
          exact hret _ _ _ _ _ rfl (by rw [show t9 = 1 from hT.symm.trans (by simp [amdT, c1, c3, c5, c6])]; exact hP) hS d_K_amend_48
      · refine lv_iload_n hx hb d_K_amend_22 rfl (lv_at hl 3 rfl) ?_
        refine lv_iconst (v := 0) hx hb d_K_amend_23 (by decide) ?_
        refine lv_ldc (v := 1000000) hx hb hown (htb _ mw_696) d_K_amend_24 ?_
        refine rdS (As := [.int q, .int 0, .int 1000000]) (rest := [.ref (an 0)]) ⟨hx, hb, hml, hown, htb⟩ (c_K_in l D (wK an kn h o u) (tK kn) q 0 1000000) (va_cwS 3 htb (gS tb_good mw_672 mw_673 mw_31 mw_674) rfl rfl rfl (by decide +kernel) ⟨Nat.le_of_ble_eq_true rfl, Nat.le_of_ble_eq_true rfl⟩) hP hK rfl hl.1 rfl (lv_room (Nat.le_of_ble_eq_true rfl)) d_K_amend_26 ⟨Nat.zero_le _, Nat.zero_le _⟩ ?_
        refine lv_if_eq (tgt := 36) hx hb d_K_amend_29 (by decide) (fun c7 => ?_) (fun c7 => ?_)
        · replace c7 := bI_f c7
          refine lv_iconst (v := 1) hx hb d_K_amend_36 (by decide) ?_
          refine va_put (D := D) (ci := 4) (v := .int 1) (ty := .int) (C := R_K) (T := F_K) (N := 22) hx hb htb iw_K t_K t_K_ok n_K hown hK hP hD hS 0 rfl rfl 0 (by decide) (htb _ mw_596) (fun _ h9 => h9) rfl (by decide +kernel) rfl rfl (Nat.le_of_ble_eq_true rfl) d_K_amend_37 (fun H locs hP hD hS => ?_)
          have hP : va_P D classes (wK an kn h o (upd u 0 1)) H := hP
          have hD : va_D A (wK an kn h o (upd u 0 1)) := hD
          refine lv_aload_n hx hb d_K_amend_40 rfl (lv_at hl 0 rfl) ?_
          refine va_get (D := D) (ci := 4) (v := .int 1) (C := R_K) (T := F_K) (N := 22) hx hb htb iw_K hown hK hP 0 rfl rfl 0 (by decide) (htb _ mw_596) (fun _ h9 => h9) rfl d_K_amend_41 ?_
          refine lv_if_le (tgt := 49) hx hb d_K_amend_44 (by decide) (fun c8 => ?_) (fun c8 => ?_)
          · exact absurd c8 (by decide)
          · refine lv_iconst (v := 0) hx hb d_K_amend_47 (by decide) ?_
            exact hret _ _ _ _ _ rfl (by rw [show t9 = 1 from hT.symm.trans (by simp [amdT, c1, c3, c5, c7, c8])]; exact hP) hS d_K_amend_48
        · replace c7 := bI_t c7
          refine lv_iconst (v := 0) hx hb d_K_amend_32 (by decide) ?_
          refine lv_goto (tgt := 37) hx hb d_K_amend_33 (by decide) ?_
          refine va_put (D := D) (ci := 4) (v := .int 0) (ty := .int) (C := R_K) (T := F_K) (N := 22) hx hb htb iw_K t_K t_K_ok n_K hown hK hP hD hS 0 rfl rfl 0 (by decide) (htb _ mw_596) (fun _ h9 => h9) rfl (by decide +kernel) rfl rfl (Nat.le_of_ble_eq_true rfl) d_K_amend_37 (fun H locs hP hD hS => ?_)
          have hP : va_P D classes (wK an kn h o (upd u 0 0)) H := hP
          have hD : va_D A (wK an kn h o (upd u 0 0)) := hD
          exact absurd (hT.symm.trans (by simp [amdT, c1, c3, c5, c7])) h0
set_option maxHeartbeats 4000000 in
set_option maxRecDepth 100000 in
theorem c_K_title_t (l : Launch) (D : va_G) (an : Nat → Nat) (kn : Nat → ClassId) (h : Nat → Nat → Int32) (o : Nat → Bool) (u : Nat → Int32) (nb : Nat) (hnb : u 1 = nI nb) (hb6 : nb ≤ 60) (x y q : Int32) (t9 : Int32) (hT : titT nb x y q = t9) (h0 : ¬ t9 = 0) : WRi l y_K_title (.code y_K_title b_K_title 4 (some .int) :: TB) ({ frames := 2, cells := 0, slots := 0, locals := 42 } : Room) [.ref (an 0), .int x, .int y, .int q] D classes (wK an kn h o u) (wK an kn h o (upd u 0 t9)) (tK kn) (0) := by
  refine wr_of (by decide +kernel) (rfl) (Nat.le_of_ble_eq_true rfl) ?_
  intro p e s m args below meth c Q ls A hx hb hml htb hown hP hK hD hS hA hl hret
  have hl : lv_has ls 4 [(0, .ref (an 0)), (1, .int x), (2, .int y), (3, .int q)] := hl
  refine lv_aload_n hx hb d_K_title_0 rfl (lv_at hl 0 rfl) ?_
  refine lv_aload_n hx hb d_K_title_1 rfl (lv_at hl 0 rfl) ?_
  refine lv_iload_n hx hb d_K_title_2 rfl (lv_at hl 1 rfl) ?_
  refine rdV (As := [.int x]) (rest := [.ref (an 0)]) (b := an 0) ⟨hx, hb, hml, hown, htb⟩ (c_K_isBill l D an kn h o u nb hnb hb6 x) (cwV (C := R_K) 1 htb (gV tb_good mw_680 mw_682 mw_6 mw_31 mw_683) rfl rfl rfl (by decide +kernel) ⟨Nat.le_of_ble_eq_true rfl, Nat.le_of_ble_eq_true rfl⟩) hP hK (va_recv hK hP (ci := 4) (q0 := 0) rfl rfl) rfl hl.1 rfl (lv_room (Nat.le_of_ble_eq_true rfl)) d_K_title_3 ⟨Nat.zero_le _, Nat.zero_le _⟩ ?_
  refine lv_if_eq (tgt := 32) hx hb d_K_title_6 (by decide) (fun c1 => ?_) (fun c1 => ?_)
  · replace c1 := bI_f c1
    refine lv_iconst (v := 1) hx hb d_K_title_32 (by decide) ?_
    refine va_put (D := D) (ci := 4) (v := .int 1) (ty := .int) (C := R_K) (T := F_K) (N := 22) hx hb htb iw_K t_K t_K_ok n_K hown hK hP hD hS 0 rfl rfl 0 (by decide) (htb _ mw_596) (fun _ h9 => h9) rfl (by decide +kernel) rfl rfl (Nat.le_of_ble_eq_true rfl) d_K_title_33 (fun H locs hP hD hS => ?_)
    have hP : va_P D classes (wK an kn h o (upd u 0 1)) H := hP
    have hD : va_D A (wK an kn h o (upd u 0 1)) := hD
    refine lv_aload_n hx hb d_K_title_36 rfl (lv_at hl 0 rfl) ?_
    refine va_get (D := D) (ci := 4) (v := .int 1) (C := R_K) (T := F_K) (N := 22) hx hb htb iw_K hown hK hP 0 rfl rfl 0 (by decide) (htb _ mw_596) (fun _ h9 => h9) rfl d_K_title_37 ?_
    refine lv_if_gt (tgt := 62) hx hb d_K_title_40 (by decide) (fun c2 => ?_) (fun c2 => ?_)
    · refine lv_iconst (v := 0) hx hb d_K_title_62 (by decide) ?_
      exact hret _ _ _ _ _ rfl (by rw [show t9 = 1 from hT.symm.trans (by simp [titT, c1, c2])]; exact hP) hS d_K_title_63
    · exact absurd c2 (by decide)
  · replace c1 := bI_t c1
    refine lv_iload_n hx hb d_K_title_9 rfl (lv_at hl 2 rfl) ?_
    refine rdS (As := [.int y]) (rest := [.ref (an 0)]) ⟨hx, hb, hml, hown, htb⟩ (c_K_isHolder l D (wK an kn h o u) (tK kn) y) (va_cwS 1 htb (gS tb_good mw_745 mw_746 mw_31 mw_747) rfl rfl rfl (by decide +kernel) ⟨Nat.le_of_ble_eq_true rfl, Nat.le_of_ble_eq_true rfl⟩) hP hK rfl hl.1 rfl (lv_room (Nat.le_of_ble_eq_true rfl)) d_K_title_10 ⟨Nat.zero_le _, Nat.zero_le _⟩ ?_
    refine lv_if_eq (tgt := 32) hx hb d_K_title_13 (by decide) (fun c3 => ?_) (fun c3 => ?_)
    · replace c3 := bI_f c3
      refine lv_iconst (v := 1) hx hb d_K_title_32 (by decide) ?_
      refine va_put (D := D) (ci := 4) (v := .int 1) (ty := .int) (C := R_K) (T := F_K) (N := 22) hx hb htb iw_K t_K t_K_ok n_K hown hK hP hD hS 0 rfl rfl 0 (by decide) (htb _ mw_596) (fun _ h9 => h9) rfl (by decide +kernel) rfl rfl (Nat.le_of_ble_eq_true rfl) d_K_title_33 (fun H locs hP hD hS => ?_)
      have hP : va_P D classes (wK an kn h o (upd u 0 1)) H := hP
      have hD : va_D A (wK an kn h o (upd u 0 1)) := hD
      refine lv_aload_n hx hb d_K_title_36 rfl (lv_at hl 0 rfl) ?_
      refine va_get (D := D) (ci := 4) (v := .int 1) (C := R_K) (T := F_K) (N := 22) hx hb htb iw_K hown hK hP 0 rfl rfl 0 (by decide) (htb _ mw_596) (fun _ h9 => h9) rfl d_K_title_37 ?_
      refine lv_if_gt (tgt := 62) hx hb d_K_title_40 (by decide) (fun c4 => ?_) (fun c4 => ?_)
      · refine lv_iconst (v := 0) hx hb d_K_title_62 (by decide) ?_
        exact hret _ _ _ _ _ rfl (by rw [show t9 = 1 from hT.symm.trans (by simp [titT, c1, c3, c4])]; exact hP) hS d_K_title_63
      · exact absurd c4 (by decide)
    · replace c3 := bI_t c3
      refine lv_iload_n hx hb d_K_title_16 rfl (lv_at hl 3 rfl) ?_
      refine rdS (As := [.int q]) (rest := [.ref (an 0)]) ⟨hx, hb, hml, hown, htb⟩ (c_K_isHolder l D (wK an kn h o u) (tK kn) q) (va_cwS 1 htb (gS tb_good mw_745 mw_746 mw_31 mw_747) rfl rfl rfl (by decide +kernel) ⟨Nat.le_of_ble_eq_true rfl, Nat.le_of_ble_eq_true rfl⟩) hP hK rfl hl.1 rfl (lv_room (Nat.le_of_ble_eq_true rfl)) d_K_title_17 ⟨Nat.zero_le _, Nat.zero_le _⟩ ?_
      refine lv_if_eq (tgt := 32) hx hb d_K_title_20 (by decide) (fun c5 => ?_) (fun c5 => ?_)
      · replace c5 := bI_f c5
        refine lv_iconst (v := 1) hx hb d_K_title_32 (by decide) ?_
        refine va_put (D := D) (ci := 4) (v := .int 1) (ty := .int) (C := R_K) (T := F_K) (N := 22) hx hb htb iw_K t_K t_K_ok n_K hown hK hP hD hS 0 rfl rfl 0 (by decide) (htb _ mw_596) (fun _ h9 => h9) rfl (by decide +kernel) rfl rfl (Nat.le_of_ble_eq_true rfl) d_K_title_33 (fun H locs hP hD hS => ?_)
        have hP : va_P D classes (wK an kn h o (upd u 0 1)) H := hP
        have hD : va_D A (wK an kn h o (upd u 0 1)) := hD
        refine lv_aload_n hx hb d_K_title_36 rfl (lv_at hl 0 rfl) ?_
        refine va_get (D := D) (ci := 4) (v := .int 1) (C := R_K) (T := F_K) (N := 22) hx hb htb iw_K hown hK hP 0 rfl rfl 0 (by decide) (htb _ mw_596) (fun _ h9 => h9) rfl d_K_title_37 ?_
        refine lv_if_gt (tgt := 62) hx hb d_K_title_40 (by decide) (fun c6 => ?_) (fun c6 => ?_)
        · refine lv_iconst (v := 0) hx hb d_K_title_62 (by decide) ?_
          exact hret _ _ _ _ _ rfl (by rw [show t9 = 1 from hT.symm.trans (by simp [titT, c1, c3, c5, c6])]; exact hP) hS d_K_title_63
        · exact absurd c6 (by decide)
      · replace c5 := bI_t c5
        refine lv_iload_n hx hb d_K_title_23 rfl (lv_at hl 2 rfl) ?_
        refine lv_iload_n hx hb d_K_title_24 rfl (lv_at hl 3 rfl) ?_
        refine lv_icmp_eq (tgt := 32) hx hb d_K_title_25 (by decide) (fun c7 => ?_) (fun c7 => ?_)
        · refine lv_iconst (v := 1) hx hb d_K_title_32 (by decide) ?_
          refine va_put (D := D) (ci := 4) (v := .int 1) (ty := .int) (C := R_K) (T := F_K) (N := 22) hx hb htb iw_K t_K t_K_ok n_K hown hK hP hD hS 0 rfl rfl 0 (by decide) (htb _ mw_596) (fun _ h9 => h9) rfl (by decide +kernel) rfl rfl (Nat.le_of_ble_eq_true rfl) d_K_title_33 (fun H locs hP hD hS => ?_)
          have hP : va_P D classes (wK an kn h o (upd u 0 1)) H := hP
          have hD : va_D A (wK an kn h o (upd u 0 1)) := hD
          refine lv_aload_n hx hb d_K_title_36 rfl (lv_at hl 0 rfl) ?_
          refine va_get (D := D) (ci := 4) (v := .int 1) (C := R_K) (T := F_K) (N := 22) hx hb htb iw_K hown hK hP 0 rfl rfl 0 (by decide) (htb _ mw_596) (fun _ h9 => h9) rfl d_K_title_37 ?_
          refine lv_if_gt (tgt := 62) hx hb d_K_title_40 (by decide) (fun c8 => ?_) (fun c8 => ?_)
          · refine lv_iconst (v := 0) hx hb d_K_title_62 (by decide) ?_
            exact hret _ _ _ _ _ rfl (by rw [show t9 = 1 from hT.symm.trans (by simp [titT, c1, c3, c5, c7, c8])]; exact hP) hS d_K_title_63
          · exact absurd c8 (by decide)
        · refine lv_iconst (v := 0) hx hb d_K_title_28 (by decide) ?_
          refine lv_goto (tgt := 33) hx hb d_K_title_29 (by decide) ?_
          refine va_put (D := D) (ci := 4) (v := .int 0) (ty := .int) (C := R_K) (T := F_K) (N := 22) hx hb htb iw_K t_K t_K_ok n_K hown hK hP hD hS 0 rfl rfl 0 (by decide) (htb _ mw_596) (fun _ h9 => h9) rfl (by decide +kernel) rfl rfl (Nat.le_of_ble_eq_true rfl) d_K_title_33 (fun H locs hP hD hS => ?_)
          have hP : va_P D classes (wK an kn h o (upd u 0 0)) H := hP
          have hD : va_D A (wK an kn h o (upd u 0 0)) := hD
          exact absurd (hT.symm.trans (by simp [titT, c1, c3, c5, c7])) h0
set_option maxHeartbeats 4000000 in
set_option maxRecDepth 100000 in
theorem c_K_order_t (l : Launch) (D : va_G) (an : Nat → Nat) (kn : Nat → ClassId) (h : Nat → Nat → Int32) (o : Nat → Bool) (u : Nat → Int32) (nb : Nat) (hnb : u 1 = nI nb) (hb6 : nb ≤ 60) (nx : Nat) (hnx : u 2 = nI nx) (hx6 : nx ≤ 60) (x y q : Int32) (t9 : Int32) (hT : ordT nb nx x y q = t9) (h0 : ¬ t9 = 0) : WRi l y_K_order (.code y_K_order b_K_order 4 (some .int) :: TB) ({ frames := 2, cells := 0, slots := 0, locals := 42 } : Room) [.ref (an 0), .int x, .int y, .int q] D classes (wK an kn h o u) (wK an kn h o (upd u 0 t9)) (tK kn) (0) := by
  refine wr_of (by decide +kernel) (rfl) (Nat.le_of_ble_eq_true rfl) ?_
  intro p e s m args below meth c Q ls A hx hb hml htb hown hP hK hD hS hA hl hret
  have hl : lv_has ls 4 [(0, .ref (an 0)), (1, .int x), (2, .int y), (3, .int q)] := hl
  refine lv_aload_n hx hb d_K_order_0 rfl (lv_at hl 0 rfl) ?_
  refine lv_aload_n hx hb d_K_order_1 rfl (lv_at hl 0 rfl) ?_
  refine lv_iload_n hx hb d_K_order_2 rfl (lv_at hl 1 rfl) ?_
  refine rdV (As := [.int x]) (rest := [.ref (an 0)]) (b := an 0) ⟨hx, hb, hml, hown, htb⟩ (c_K_isBill l D an kn h o u nb hnb hb6 x) (cwV (C := R_K) 1 htb (gV tb_good mw_680 mw_682 mw_6 mw_31 mw_683) rfl rfl rfl (by decide +kernel) ⟨Nat.le_of_ble_eq_true rfl, Nat.le_of_ble_eq_true rfl⟩) hP hK (va_recv hK hP (ci := 4) (q0 := 0) rfl rfl) rfl hl.1 rfl (lv_room (Nat.le_of_ble_eq_true rfl)) d_K_order_3 ⟨Nat.zero_le _, Nat.zero_le _⟩ ?_
  refine lv_if_eq (tgt := 28) hx hb d_K_order_6 (by decide) (fun c1 => ?_) (fun c1 => ?_)
  · replace c1 := bI_f c1
    refine lv_iconst (v := 1) hx hb d_K_order_28 (by decide) ?_
    refine va_put (D := D) (ci := 4) (v := .int 1) (ty := .int) (C := R_K) (T := F_K) (N := 22) hx hb htb iw_K t_K t_K_ok n_K hown hK hP hD hS 0 rfl rfl 0 (by decide) (htb _ mw_596) (fun _ h9 => h9) rfl (by decide +kernel) rfl rfl (Nat.le_of_ble_eq_true rfl) d_K_order_29 (fun H locs hP hD hS => ?_)
    have hP : va_P D classes (wK an kn h o (upd u 0 1)) H := hP
    have hD : va_D A (wK an kn h o (upd u 0 1)) := hD
    refine lv_aload_n hx hb d_K_order_32 rfl (lv_at hl 0 rfl) ?_
    refine va_get (D := D) (ci := 4) (v := .int 1) (C := R_K) (T := F_K) (N := 22) hx hb htb iw_K hown hK hP 0 rfl rfl 0 (by decide) (htb _ mw_596) (fun _ h9 => h9) rfl d_K_order_33 ?_
    refine lv_if_gt (tgt := 76) hx hb d_K_order_36 (by decide) (fun c2 => ?_) (fun c2 => ?_)
    · refine lv_iconst (v := 0) hx hb d_K_order_76 (by decide) ?_
      exact hret _ _ _ _ _ rfl (by rw [show t9 = 1 from hT.symm.trans (by simp [ordT, c1, c2])]; exact hP) hS d_K_order_77
    · exact absurd c2 (by decide)
  · replace c1 := bI_t c1
    refine lv_aload_n hx hb d_K_order_9 rfl (lv_at hl 0 rfl) ?_
    refine lv_iload_n hx hb d_K_order_10 rfl (lv_at hl 2 rfl) ?_
    refine rdV (As := [.int y]) (rest := [.ref (an 0)]) (b := an 0) ⟨hx, hb, hml, hown, htb⟩ (c_K_isBox l D an kn h o u nx hnx hx6 y) (cwV (C := R_K) 1 htb (gV tb_good mw_713 mw_715 mw_11 mw_31 mw_716) rfl rfl rfl (by decide +kernel) ⟨Nat.le_of_ble_eq_true rfl, Nat.le_of_ble_eq_true rfl⟩) hP hK (va_recv hK hP (ci := 4) (q0 := 0) rfl rfl) rfl hl.1 rfl (lv_room (Nat.le_of_ble_eq_true rfl)) d_K_order_11 ⟨Nat.zero_le _, Nat.zero_le _⟩ ?_
    refine lv_if_eq (tgt := 28) hx hb d_K_order_14 (by decide) (fun c3 => ?_) (fun c3 => ?_)
    · replace c3 := bI_f c3
      refine lv_iconst (v := 1) hx hb d_K_order_28 (by decide) ?_
      refine va_put (D := D) (ci := 4) (v := .int 1) (ty := .int) (C := R_K) (T := F_K) (N := 22) hx hb htb iw_K t_K t_K_ok n_K hown hK hP hD hS 0 rfl rfl 0 (by decide) (htb _ mw_596) (fun _ h9 => h9) rfl (by decide +kernel) rfl rfl (Nat.le_of_ble_eq_true rfl) d_K_order_29 (fun H locs hP hD hS => ?_)
      have hP : va_P D classes (wK an kn h o (upd u 0 1)) H := hP
      have hD : va_D A (wK an kn h o (upd u 0 1)) := hD
      refine lv_aload_n hx hb d_K_order_32 rfl (lv_at hl 0 rfl) ?_
      refine va_get (D := D) (ci := 4) (v := .int 1) (C := R_K) (T := F_K) (N := 22) hx hb htb iw_K hown hK hP 0 rfl rfl 0 (by decide) (htb _ mw_596) (fun _ h9 => h9) rfl d_K_order_33 ?_
      refine lv_if_gt (tgt := 76) hx hb d_K_order_36 (by decide) (fun c4 => ?_) (fun c4 => ?_)
      · refine lv_iconst (v := 0) hx hb d_K_order_76 (by decide) ?_
        exact hret _ _ _ _ _ rfl (by rw [show t9 = 1 from hT.symm.trans (by simp [ordT, c1, c3, c4])]; exact hP) hS d_K_order_77
      · exact absurd c4 (by decide)
    · replace c3 := bI_t c3
      refine lv_iload_n hx hb d_K_order_17 rfl (lv_at hl 3 rfl) ?_
      refine rdS (As := [.int q]) (rest := [.ref (an 0)]) ⟨hx, hb, hml, hown, htb⟩ (c_K_isHolder l D (wK an kn h o u) (tK kn) q) (va_cwS 1 htb (gS tb_good mw_745 mw_746 mw_31 mw_747) rfl rfl rfl (by decide +kernel) ⟨Nat.le_of_ble_eq_true rfl, Nat.le_of_ble_eq_true rfl⟩) hP hK rfl hl.1 rfl (lv_room (Nat.le_of_ble_eq_true rfl)) d_K_order_18 ⟨Nat.zero_le _, Nat.zero_le _⟩ ?_
      refine lv_if_eq (tgt := 28) hx hb d_K_order_21 (by decide) (fun c5 => ?_) (fun c5 => ?_)
      · replace c5 := bI_f c5
        refine lv_iconst (v := 1) hx hb d_K_order_28 (by decide) ?_
        refine va_put (D := D) (ci := 4) (v := .int 1) (ty := .int) (C := R_K) (T := F_K) (N := 22) hx hb htb iw_K t_K t_K_ok n_K hown hK hP hD hS 0 rfl rfl 0 (by decide) (htb _ mw_596) (fun _ h9 => h9) rfl (by decide +kernel) rfl rfl (Nat.le_of_ble_eq_true rfl) d_K_order_29 (fun H locs hP hD hS => ?_)
        have hP : va_P D classes (wK an kn h o (upd u 0 1)) H := hP
        have hD : va_D A (wK an kn h o (upd u 0 1)) := hD
        refine lv_aload_n hx hb d_K_order_32 rfl (lv_at hl 0 rfl) ?_
        refine va_get (D := D) (ci := 4) (v := .int 1) (C := R_K) (T := F_K) (N := 22) hx hb htb iw_K hown hK hP 0 rfl rfl 0 (by decide) (htb _ mw_596) (fun _ h9 => h9) rfl d_K_order_33 ?_
        refine lv_if_gt (tgt := 76) hx hb d_K_order_36 (by decide) (fun c6 => ?_) (fun c6 => ?_)
        · refine lv_iconst (v := 0) hx hb d_K_order_76 (by decide) ?_
          exact hret _ _ _ _ _ rfl (by rw [show t9 = 1 from hT.symm.trans (by simp [ordT, c1, c3, c5, c6])]; exact hP) hS d_K_order_77
        · exact absurd c6 (by decide)
      · replace c5 := bI_t c5
        refine lv_iconst (v := 0) hx hb d_K_order_24 (by decide) ?_
        refine lv_goto (tgt := 29) hx hb d_K_order_25 (by decide) ?_
        refine va_put (D := D) (ci := 4) (v := .int 0) (ty := .int) (C := R_K) (T := F_K) (N := 22) hx hb htb iw_K t_K t_K_ok n_K hown hK hP hD hS 0 rfl rfl 0 (by decide) (htb _ mw_596) (fun _ h9 => h9) rfl (by decide +kernel) rfl rfl (Nat.le_of_ble_eq_true rfl) d_K_order_29 (fun H locs hP hD hS => ?_)
        have hP : va_P D classes (wK an kn h o (upd u 0 0)) H := hP
        have hD : va_D A (wK an kn h o (upd u 0 0)) := hD
        exact absurd (hT.symm.trans (by simp [ordT, c1, c3, c5])) h0
set_option maxHeartbeats 4000000 in
set_option maxRecDepth 100000 in
theorem c_K_split_t (l : Launch) (D : va_G) (an : Nat → Nat) (kn : Nat → ClassId) (h : Nat → Nat → Int32) (o : Nat → Bool) (u : Nat → Int32) (nb : Nat) (hnb : u 1 = nI nb) (hb6 : nb ≤ 60) (nl : Nat) (hnl : u 3 = nI nl) (hl2 : nl ≤ 200) (x y : Int32) (t9 : Int32) (hT : splT nb nl x y = t9) (h0 : ¬ t9 = 0) : WRi l y_K_split (.code y_K_split b_K_split 8 (some .int) :: TB) ({ frames := 2, cells := 0, slots := 0, locals := 46 } : Room) [.ref (an 0), .int x, .int y] D classes (wK an kn h o u) (wK an kn h o (upd u 0 t9)) (tK kn) (0) := by
  refine wr_of (by decide +kernel) (rfl) (Nat.le_of_ble_eq_true rfl) ?_
  intro p e s m args below meth c Q ls A hx hb hml htb hown hP hK hD hS hA hl hret
  have hl : lv_has ls 8 [(0, .ref (an 0)), (1, .int x), (2, .int y)] := hl
  refine lv_aload_n hx hb d_K_split_0 rfl (lv_at hl 0 rfl) ?_
  refine lv_aload_n hx hb d_K_split_1 rfl (lv_at hl 0 rfl) ?_
  refine lv_iload_n hx hb d_K_split_2 rfl (lv_at hl 1 rfl) ?_
  refine rdV (As := [.int x]) (rest := [.ref (an 0)]) (b := an 0) ⟨hx, hb, hml, hown, htb⟩ (c_K_isBill l D an kn h o u nb hnb hb6 x) (cwV (C := R_K) 1 htb (gV tb_good mw_680 mw_682 mw_6 mw_31 mw_683) rfl rfl rfl (by decide +kernel) ⟨Nat.le_of_ble_eq_true rfl, Nat.le_of_ble_eq_true rfl⟩) hP hK (va_recv hK hP (ci := 4) (q0 := 0) rfl rfl) rfl hl.1 rfl (lv_room (Nat.le_of_ble_eq_true rfl)) d_K_split_3 ⟨Nat.zero_le _, Nat.zero_le _⟩ ?_
  refine lv_if_eq (tgt := 14) hx hb d_K_split_6 (by decide) (fun c1 => ?_) (fun c1 => ?_)
  · replace c1 := bI_f c1
    refine lv_iconst (v := 1) hx hb d_K_split_14 (by decide) ?_
    refine lv_goto (tgt := 42) hx hb d_K_split_15 (by decide) ?_
    refine va_put (D := D) (ci := 4) (v := .int 1) (ty := .int) (C := R_K) (T := F_K) (N := 22) hx hb htb iw_K t_K t_K_ok n_K hown hK hP hD hS 0 rfl rfl 0 (by decide) (htb _ mw_596) (fun _ h9 => h9) rfl (by decide +kernel) rfl rfl (Nat.le_of_ble_eq_true rfl) d_K_split_42 (fun H locs hP hD hS => ?_)
    have hP : va_P D classes (wK an kn h o (upd u 0 1)) H := hP
    have hD : va_D A (wK an kn h o (upd u 0 1)) := hD
    refine lv_aload_n hx hb d_K_split_45 rfl (lv_at hl 0 rfl) ?_
    refine va_get (D := D) (ci := 4) (v := .int 1) (C := R_K) (T := F_K) (N := 22) hx hb htb iw_K hown hK hP 0 rfl rfl 0 (by decide) (htb _ mw_596) (fun _ h9 => h9) rfl d_K_split_46 ?_
    refine lv_if_le (tgt := 54) hx hb d_K_split_49 (by decide) (fun c2 => ?_) (fun c2 => ?_)
    · exact absurd c2 (by decide)
    · refine lv_iconst (v := 0) hx hb d_K_split_52 (by decide) ?_
      exact hret _ _ _ _ _ rfl (by rw [show t9 = 1 from hT.symm.trans (by simp [splT, c1, c2])]; exact hP) hS d_K_split_53
  · replace c1 := bI_t c1
    refine lv_iload_n hx hb d_K_split_9 rfl (lv_at hl 2 rfl) ?_
    refine lv_iconst (v := 1) hx hb d_K_split_10 (by decide) ?_
    refine lv_icmp_ge (tgt := 18) hx hb d_K_split_11 (by decide) (fun c3 => ?_) (fun c3 => ?_)
    · refine lv_aload_n hx hb d_K_split_18 rfl (lv_at hl 0 rfl) ?_
      refine va_get (D := D) (ci := 4) (v := .int (nI nb)) (C := R_K) (T := F_K) (N := 22) hx hb htb iw_K hown hK hP 0 rfl rfl 1 (by decide) (htb _ mw_597) (fun _ h9 => h9) (congrArg (fun x => some (Value.int x)) hnb) d_K_split_19 ?_
      refine lv_bipush (v := 60) hx hb d_K_split_22 (by decide) ?_
      refine q_icmp_eq (a := nb) (b := 60) (tgt := 37) hx hb (by omega) (by omega) d_K_split_24 (by decide) (fun c4 => ?_) (fun c4 => ?_)
      · refine lv_iconst (v := 2) hx hb d_K_split_37 (by decide) ?_
        refine lv_goto (tgt := 42) hx hb d_K_split_38 (by decide) ?_
        refine va_put (D := D) (ci := 4) (v := .int 2) (ty := .int) (C := R_K) (T := F_K) (N := 22) hx hb htb iw_K t_K t_K_ok n_K hown hK hP hD hS 0 rfl rfl 0 (by decide) (htb _ mw_596) (fun _ h9 => h9) rfl (by decide +kernel) rfl rfl (Nat.le_of_ble_eq_true rfl) d_K_split_42 (fun H locs hP hD hS => ?_)
        have hP : va_P D classes (wK an kn h o (upd u 0 2)) H := hP
        have hD : va_D A (wK an kn h o (upd u 0 2)) := hD
        refine lv_aload_n hx hb d_K_split_45 rfl (lv_at hl 0 rfl) ?_
        refine va_get (D := D) (ci := 4) (v := .int 2) (C := R_K) (T := F_K) (N := 22) hx hb htb iw_K hown hK hP 0 rfl rfl 0 (by decide) (htb _ mw_596) (fun _ h9 => h9) rfl d_K_split_46 ?_
        refine lv_if_le (tgt := 54) hx hb d_K_split_49 (by decide) (fun c5 => ?_) (fun c5 => ?_)
        · exact absurd c5 (by decide)
        · refine lv_iconst (v := 0) hx hb d_K_split_52 (by decide) ?_
          exact hret _ _ _ _ _ rfl (by rw [show t9 = 2 from hT.symm.trans (by simp [splT, c1, c3, if_pos c4, c5])]; exact hP) hS d_K_split_53
      · refine lv_aload_n hx hb d_K_split_27 rfl (lv_at hl 0 rfl) ?_
        refine va_get (D := D) (ci := 4) (v := .int (nI nl)) (C := R_K) (T := F_K) (N := 22) hx hb htb iw_K hown hK hP 0 rfl rfl 3 (by decide) (htb _ mw_599) (fun _ h9 => h9) (congrArg (fun x => some (Value.int x)) hnl) d_K_split_28 ?_
        refine lv_sipush (v := 200) hx hb d_K_split_31 (by decide) ?_
        refine q_icmp_ne (a := nl) (b := 200) (tgt := 41) hx hb (by omega) (by omega) d_K_split_34 (by decide) (fun c6 => ?_) (fun c6 => ?_)
        · refine lv_iconst (v := 0) hx hb d_K_split_41 (by decide) ?_
          refine va_put (D := D) (ci := 4) (v := .int 0) (ty := .int) (C := R_K) (T := F_K) (N := 22) hx hb htb iw_K t_K t_K_ok n_K hown hK hP hD hS 0 rfl rfl 0 (by decide) (htb _ mw_596) (fun _ h9 => h9) rfl (by decide +kernel) rfl rfl (Nat.le_of_ble_eq_true rfl) d_K_split_42 (fun H locs hP hD hS => ?_)
          have hP : va_P D classes (wK an kn h o (upd u 0 0)) H := hP
          have hD : va_D A (wK an kn h o (upd u 0 0)) := hD
          exact absurd (hT.symm.trans (by simp [splT, c1, c3, if_neg c4, if_neg c6])) h0
        · refine lv_iconst (v := 2) hx hb d_K_split_37 (by decide) ?_
          refine lv_goto (tgt := 42) hx hb d_K_split_38 (by decide) ?_
          refine va_put (D := D) (ci := 4) (v := .int 2) (ty := .int) (C := R_K) (T := F_K) (N := 22) hx hb htb iw_K t_K t_K_ok n_K hown hK hP hD hS 0 rfl rfl 0 (by decide) (htb _ mw_596) (fun _ h9 => h9) rfl (by decide +kernel) rfl rfl (Nat.le_of_ble_eq_true rfl) d_K_split_42 (fun H locs hP hD hS => ?_)
          have hP : va_P D classes (wK an kn h o (upd u 0 2)) H := hP
          have hD : va_D A (wK an kn h o (upd u 0 2)) := hD
          refine lv_aload_n hx hb d_K_split_45 rfl (lv_at hl 0 rfl) ?_
          refine va_get (D := D) (ci := 4) (v := .int 2) (C := R_K) (T := F_K) (N := 22) hx hb htb iw_K hown hK hP 0 rfl rfl 0 (by decide) (htb _ mw_596) (fun _ h9 => h9) rfl d_K_split_46 ?_
          refine lv_if_le (tgt := 54) hx hb d_K_split_49 (by decide) (fun c7 => ?_) (fun c7 => ?_)
          · exact absurd c7 (by decide)
          · refine lv_iconst (v := 0) hx hb d_K_split_52 (by decide) ?_
            exact hret _ _ _ _ _ rfl (by rw [show t9 = 2 from hT.symm.trans (by simp [splT, c1, c3, if_neg c4, if_pos c6, c7])]; exact hP) hS d_K_split_53
    · refine lv_iconst (v := 1) hx hb d_K_split_14 (by decide) ?_
      refine lv_goto (tgt := 42) hx hb d_K_split_15 (by decide) ?_
      refine va_put (D := D) (ci := 4) (v := .int 1) (ty := .int) (C := R_K) (T := F_K) (N := 22) hx hb htb iw_K t_K t_K_ok n_K hown hK hP hD hS 0 rfl rfl 0 (by decide) (htb _ mw_596) (fun _ h9 => h9) rfl (by decide +kernel) rfl rfl (Nat.le_of_ble_eq_true rfl) d_K_split_42 (fun H locs hP hD hS => ?_)
      have hP : va_P D classes (wK an kn h o (upd u 0 1)) H := hP
      have hD : va_D A (wK an kn h o (upd u 0 1)) := hD
      refine lv_aload_n hx hb d_K_split_45 rfl (lv_at hl 0 rfl) ?_
      refine va_get (D := D) (ci := 4) (v := .int 1) (C := R_K) (T := F_K) (N := 22) hx hb htb iw_K hown hK hP 0 rfl rfl 0 (by decide) (htb _ mw_596) (fun _ h9 => h9) rfl d_K_split_46 ?_
      refine lv_if_le (tgt := 54) hx hb d_K_split_49 (by decide) (fun c8 => ?_) (fun c8 => ?_)
      · exact absurd c8 (by decide)
      · refine lv_iconst (v := 0) hx hb d_K_split_52 (by decide) ?_
        exact hret _ _ _ _ _ rfl (by rw [show t9 = 1 from hT.symm.trans (by simp [splT, c1, c3, c8])]; exact hP) hS d_K_split_53
set_option maxHeartbeats 4000000 in
set_option maxRecDepth 100000 in
theorem c_K_look_t (l : Launch) (D : va_G) (an : Nat → Nat) (kn : Nat → ClassId) (h : Nat → Nat → Int32) (o : Nat → Bool) (u : Nat → Int32) (nb : Nat) (hnb : u 1 = nI nb) (hb6 : nb ≤ 60) (x y : Int32) (t9 : Int32) (hT : looT nb x y = t9) (h0 : ¬ t9 = 0) : WRi l y_K_look (.code y_K_look b_K_look 4 (some .int) :: TB) ({ frames := 3, cells := 0, slots := 0, locals := 70 } : Room) [.ref (an 0), .int x, .int y] D classes (wK an kn h o u) (wK an kn h o (upd u 0 t9)) (tK kn) (0) := by
  refine wr_of (by decide +kernel) (rfl) (Nat.le_of_ble_eq_true rfl) ?_
  intro p e s m args below meth c Q ls A hx hb hml htb hown hP hK hD hS hA hl hret
  have hl : lv_has ls 4 [(0, .ref (an 0)), (1, .int x), (2, .int y)] := hl
  refine lv_aload_n hx hb d_K_look_0 rfl (lv_at hl 0 rfl) ?_
  refine lv_aload_n hx hb d_K_look_1 rfl (lv_at hl 0 rfl) ?_
  refine lv_iload_n hx hb d_K_look_2 rfl (lv_at hl 1 rfl) ?_
  refine rdV (As := [.int x]) (rest := [.ref (an 0)]) (b := an 0) ⟨hx, hb, hml, hown, htb⟩ (c_K_isBill l D an kn h o u nb hnb hb6 x) (cwV (C := R_K) 1 htb (gV tb_good mw_680 mw_682 mw_6 mw_31 mw_683) rfl rfl rfl (by decide +kernel) ⟨Nat.le_of_ble_eq_true rfl, Nat.le_of_ble_eq_true rfl⟩) hP hK (va_recv hK hP (ci := 4) (q0 := 0) rfl rfl) rfl hl.1 rfl (lv_room (Nat.le_of_ble_eq_true rfl)) d_K_look_3 ⟨Nat.zero_le _, Nat.zero_le _⟩ ?_
  refine lv_if_eq (tgt := 23) hx hb d_K_look_6 (by decide) (fun c1 => ?_) (fun c1 => ?_)
  · replace c1 := bI_f c1
    refine lv_iconst (v := 1) hx hb d_K_look_23 (by decide) ?_
    refine va_put (D := D) (ci := 4) (v := .int 1) (ty := .int) (C := R_K) (T := F_K) (N := 22) hx hb htb iw_K t_K t_K_ok n_K hown hK hP hD hS 0 rfl rfl 0 (by decide) (htb _ mw_596) (fun _ h9 => h9) rfl (by decide +kernel) rfl rfl (Nat.le_of_ble_eq_true rfl) d_K_look_24 (fun H locs hP hD hS => ?_)
    have hP : va_P D classes (wK an kn h o (upd u 0 1)) H := hP
    have hD : va_D A (wK an kn h o (upd u 0 1)) := hD
    refine lv_aload_n hx hb d_K_look_27 rfl (lv_at hl 0 rfl) ?_
    refine va_get (D := D) (ci := 4) (v := .int 1) (C := R_K) (T := F_K) (N := 22) hx hb htb iw_K hown hK hP 0 rfl rfl 0 (by decide) (htb _ mw_596) (fun _ h9 => h9) rfl d_K_look_28 ?_
    refine lv_if_le (tgt := 36) hx hb d_K_look_31 (by decide) (fun c2 => ?_) (fun c2 => ?_)
    · exact absurd c2 (by decide)
    · refine lv_iconst (v := 0) hx hb d_K_look_34 (by decide) ?_
      exact hret _ _ _ _ _ rfl (by rw [show t9 = 1 from hT.symm.trans (by simp [looT, c1, c2])]; exact hP) hS d_K_look_35
  · replace c1 := bI_t c1
    refine lv_iload_n hx hb d_K_look_9 rfl (lv_at hl 2 rfl) ?_
    refine lv_iconst (v := 0) hx hb d_K_look_10 (by decide) ?_
    refine lv_bipush (v := 15) hx hb d_K_look_11 (by decide) ?_
    refine rdS (As := [.int y, .int 0, .int 15]) (rest := [.ref (an 0)]) ⟨hx, hb, hml, hown, htb⟩ (c_K_in l D (wK an kn h o u) (tK kn) y 0 15) (va_cwS 3 htb (gS tb_good mw_672 mw_673 mw_31 mw_674) rfl rfl rfl (by decide +kernel) ⟨Nat.le_of_ble_eq_true rfl, Nat.le_of_ble_eq_true rfl⟩) hP hK rfl hl.1 rfl (lv_room (Nat.le_of_ble_eq_true rfl)) d_K_look_13 ⟨Nat.zero_le _, Nat.zero_le _⟩ ?_
    refine lv_if_eq (tgt := 23) hx hb d_K_look_16 (by decide) (fun c3 => ?_) (fun c3 => ?_)
    · replace c3 := bI_f c3
      refine lv_iconst (v := 1) hx hb d_K_look_23 (by decide) ?_
      refine va_put (D := D) (ci := 4) (v := .int 1) (ty := .int) (C := R_K) (T := F_K) (N := 22) hx hb htb iw_K t_K t_K_ok n_K hown hK hP hD hS 0 rfl rfl 0 (by decide) (htb _ mw_596) (fun _ h9 => h9) rfl (by decide +kernel) rfl rfl (Nat.le_of_ble_eq_true rfl) d_K_look_24 (fun H locs hP hD hS => ?_)
      have hP : va_P D classes (wK an kn h o (upd u 0 1)) H := hP
      have hD : va_D A (wK an kn h o (upd u 0 1)) := hD
      refine lv_aload_n hx hb d_K_look_27 rfl (lv_at hl 0 rfl) ?_
      refine va_get (D := D) (ci := 4) (v := .int 1) (C := R_K) (T := F_K) (N := 22) hx hb htb iw_K hown hK hP 0 rfl rfl 0 (by decide) (htb _ mw_596) (fun _ h9 => h9) rfl d_K_look_28 ?_
      refine lv_if_le (tgt := 36) hx hb d_K_look_31 (by decide) (fun c4 => ?_) (fun c4 => ?_)
      · exact absurd c4 (by decide)
      · refine lv_iconst (v := 0) hx hb d_K_look_34 (by decide) ?_
        exact hret _ _ _ _ _ rfl (by rw [show t9 = 1 from hT.symm.trans (by simp [looT, c1, c3, c4])]; exact hP) hS d_K_look_35
    · replace c3 := bI_t c3
      refine lv_iconst (v := 0) hx hb d_K_look_19 (by decide) ?_
      refine lv_goto (tgt := 24) hx hb d_K_look_20 (by decide) ?_
      refine va_put (D := D) (ci := 4) (v := .int 0) (ty := .int) (C := R_K) (T := F_K) (N := 22) hx hb htb iw_K t_K t_K_ok n_K hown hK hP hD hS 0 rfl rfl 0 (by decide) (htb _ mw_596) (fun _ h9 => h9) rfl (by decide +kernel) rfl rfl (Nat.le_of_ble_eq_true rfl) d_K_look_24 (fun H locs hP hD hS => ?_)
      have hP : va_P D classes (wK an kn h o (upd u 0 0)) H := hP
      have hD : va_D A (wK an kn h o (upd u 0 0)) := hD
      exact absurd (hT.symm.trans (by simp [looT, c1, c3])) h0
set_option maxHeartbeats 4000000 in
set_option maxRecDepth 100000 in
theorem c_K_seen_t (l : Launch) (D : va_G) (an : Nat → Nat) (kn : Nat → ClassId) (h : Nat → Nat → Int32) (o : Nat → Bool) (u : Nat → Int32) (nb : Nat) (hnb : u 1 = nI nb) (hb6 : nb ≤ 60) (nx : Nat) (hnx : u 2 = nI nx) (hx6 : nx ≤ 60) (x y : Int32) (t9 : Int32) (hT : seeT o nb nx x y = t9) (h0 : ¬ t9 = 0) : WRi l y_K_seen (.code y_K_seen b_K_seen 6 (some .int) :: TB) ({ frames := 3, cells := 0, slots := 0, locals := 66 } : Room) [.ref (an 0), .int x, .int y] D classes (wK an kn h o u) (wK an kn h o (upd u 0 t9)) (tK kn) (0) := by
  refine wr_of (by decide +kernel) (rfl) (Nat.le_of_ble_eq_true rfl) ?_
  intro p e s m args below meth c Q ls A hx hb hml htb hown hP hK hD hS hA hl hret
  have hl : lv_has ls 6 [(0, .ref (an 0)), (1, .int x), (2, .int y)] := hl
  refine lv_aload_n hx hb d_K_seen_0 rfl (lv_at hl 0 rfl) ?_
  refine lv_aload_n hx hb d_K_seen_1 rfl (lv_at hl 0 rfl) ?_
  refine lv_iload_n hx hb d_K_seen_2 rfl (lv_at hl 1 rfl) ?_
  refine rdV (As := [.int x]) (rest := [.ref (an 0)]) (b := an 0) ⟨hx, hb, hml, hown, htb⟩ (c_K_isBox l D an kn h o u nx hnx hx6 x) (cwV (C := R_K) 1 htb (gV tb_good mw_713 mw_715 mw_11 mw_31 mw_716) rfl rfl rfl (by decide +kernel) ⟨Nat.le_of_ble_eq_true rfl, Nat.le_of_ble_eq_true rfl⟩) hP hK (va_recv hK hP (ci := 4) (q0 := 0) rfl rfl) rfl hl.1 rfl (lv_room (Nat.le_of_ble_eq_true rfl)) d_K_seen_3 ⟨Nat.zero_le _, Nat.zero_le _⟩ ?_
  refine lv_if_eq (tgt := 19) hx hb d_K_seen_6 (by decide) (fun c1 => ?_) (fun c1 => ?_)
  · replace c1 := bI_f c1
    refine lv_iconst (v := 1) hx hb d_K_seen_19 (by decide) ?_
    refine lv_goto (tgt := 52) hx hb d_K_seen_20 (by decide) ?_
    refine va_put (D := D) (ci := 4) (v := .int 1) (ty := .int) (C := R_K) (T := F_K) (N := 22) hx hb htb iw_K t_K t_K_ok n_K hown hK hP hD hS 0 rfl rfl 0 (by decide) (htb _ mw_596) (fun _ h9 => h9) rfl (by decide +kernel) rfl rfl (Nat.le_of_ble_eq_true rfl) d_K_seen_52 (fun H locs hP hD hS => ?_)
    have hP : va_P D classes (wK an kn h o (upd u 0 1)) H := hP
    have hD : va_D A (wK an kn h o (upd u 0 1)) := hD
    refine lv_aload_n hx hb d_K_seen_55 rfl (lv_at hl 0 rfl) ?_
    refine va_get (D := D) (ci := 4) (v := .int 1) (C := R_K) (T := F_K) (N := 22) hx hb htb iw_K hown hK hP 0 rfl rfl 0 (by decide) (htb _ mw_596) (fun _ h9 => h9) rfl d_K_seen_56 ?_
    refine lv_if_le (tgt := 64) hx hb d_K_seen_59 (by decide) (fun c2 => ?_) (fun c2 => ?_)
    · exact absurd c2 (by decide)
    · refine lv_iconst (v := 0) hx hb d_K_seen_62 (by decide) ?_
      exact hret _ _ _ _ _ rfl (by rw [show t9 = 1 from hT.symm.trans (by simp [seeT, c1, c2])]; exact hP) hS d_K_seen_63
  · replace c1 := bI_t c1
    obtain ⟨k, hk, rfl⟩ := inN_ix c1 (by omega)
    have ek : ix (nI k) = k := ix_nI (by omega)
    have mk : ¬ nI k = -1 := nI_nm1 (by omega)
    refine lv_iload_n hx hb d_K_seen_9 rfl (lv_at hl 2 rfl) ?_
    refine lv_iconst (v := 0) hx hb d_K_seen_10 (by decide) ?_
    refine lv_bipush (v := 13) hx hb d_K_seen_11 (by decide) ?_
    refine rdS (As := [.int y, .int 0, .int 13]) (rest := [.ref (an 0)]) ⟨hx, hb, hml, hown, htb⟩ (c_K_in l D (wK an kn h o u) (tK kn) y 0 13) (va_cwS 3 htb (gS tb_good mw_672 mw_673 mw_31 mw_674) rfl rfl rfl (by decide +kernel) ⟨Nat.le_of_ble_eq_true rfl, Nat.le_of_ble_eq_true rfl⟩) hP hK rfl hl.1 rfl (lv_room (Nat.le_of_ble_eq_true rfl)) d_K_seen_13 ⟨Nat.zero_le _, Nat.zero_le _⟩ ?_
    refine lv_if_ne (tgt := 23) hx hb d_K_seen_16 (by decide) (fun c3 => ?_) (fun c3 => ?_)
    · replace c3 := bI_t c3
      refine lv_iload_n hx hb d_K_seen_23 rfl (lv_at hl 2 rfl) ?_
      refine lv_bipush (v := 10) hx hb d_K_seen_24 (by decide) ?_
      refine lv_isub hx hb d_K_seen_26 ?_
      refine lv_aload_n hx hb d_K_seen_27 rfl (lv_at hl 0 rfl) ?_
      refine lv_aload_n hx hb d_K_seen_28 rfl (lv_at hl 0 rfl) ?_
      refine lv_iload_n hx hb d_K_seen_29 rfl (lv_at hl 1 rfl) ?_
      refine rdV (As := [.int (nI k)]) (rest := [.ref (an 0), .int (y - 10), .ref (an 0)]) (b := an 0) ⟨hx, hb, hml, hown, htb⟩ (c_K_isBox l D an kn h o u nx hnx hx6 (nI k)) (cwV (C := R_K) 1 htb (gV tb_good mw_713 mw_715 mw_11 mw_31 mw_716) rfl rfl rfl (by decide +kernel) ⟨Nat.le_of_ble_eq_true rfl, Nat.le_of_ble_eq_true rfl⟩) hP hK (va_recv hK hP (ci := 4) (q0 := 0) rfl rfl) rfl hl.1 rfl (lv_room (Nat.le_of_ble_eq_true rfl)) d_K_seen_30 ⟨Nat.zero_le _, Nat.zero_le _⟩ ?_
      refine lv_if_eq (tgt := 40) hx hb d_K_seen_33 (by decide) (fun c4 => ?_) (fun c4 => ?_)
      · replace c4 := bI_f c4
        rw [inN_nI hk (by omega)] at c4; exact absurd c4 (by decide)
      · replace c4 := bI_t c4
        refine lv_iload_n hx hb d_K_seen_36 rfl (lv_at hl 1 rfl) ?_
        refine lv_goto (tgt := 41) hx hb d_K_seen_37 (by decide) ?_
        refine rdV (As := [.int (nI k)]) (rest := [.int (y - 10), .ref (an 0)]) (b := an 0) ⟨hx, hb, hml, hown, htb⟩ (c_K_billsOf l D an kn h o u nb hnb hb6 k (by omega)) (cwV (C := R_K) 1 htb (gV tb_good mw_721 mw_723 mw_13 mw_31 mw_724) rfl rfl rfl (by decide +kernel) ⟨Nat.le_of_ble_eq_true rfl, Nat.le_of_ble_eq_true rfl⟩) hP hK (va_recv hK hP (ci := 4) (q0 := 0) rfl rfl) rfl hl.1 rfl (lv_room (Nat.le_of_ble_eq_true rfl)) d_K_seen_41 ⟨Nat.zero_le _, Nat.zero_le _⟩ ?_
        refine lv_icmp_lt (tgt := 51) hx hb d_K_seen_44 (by decide) (fun c5 => ?_) (fun c5 => ?_)
        · refine lv_iconst (v := 0) hx hb d_K_seen_51 (by decide) ?_
          refine va_put (D := D) (ci := 4) (v := .int 0) (ty := .int) (C := R_K) (T := F_K) (N := 22) hx hb htb iw_K t_K t_K_ok n_K hown hK hP hD hS 0 rfl rfl 0 (by decide) (htb _ mw_596) (fun _ h9 => h9) rfl (by decide +kernel) rfl rfl (Nat.le_of_ble_eq_true rfl) d_K_seen_52 (fun H locs hP hD hS => ?_)
          have hP : va_P D classes (wK an kn h o (upd u 0 0)) H := hP
          have hD : va_D A (wK an kn h o (upd u 0 0)) := hD
          exact absurd (hT.symm.trans (by simp [seeT, c1, ek, mk, c3, c4, c5])) h0
        · refine lv_iconst (v := 2) hx hb d_K_seen_47 (by decide) ?_
          refine lv_goto (tgt := 52) hx hb d_K_seen_48 (by decide) ?_
          refine va_put (D := D) (ci := 4) (v := .int 2) (ty := .int) (C := R_K) (T := F_K) (N := 22) hx hb htb iw_K t_K t_K_ok n_K hown hK hP hD hS 0 rfl rfl 0 (by decide) (htb _ mw_596) (fun _ h9 => h9) rfl (by decide +kernel) rfl rfl (Nat.le_of_ble_eq_true rfl) d_K_seen_52 (fun H locs hP hD hS => ?_)
          have hP : va_P D classes (wK an kn h o (upd u 0 2)) H := hP
          have hD : va_D A (wK an kn h o (upd u 0 2)) := hD
          refine lv_aload_n hx hb d_K_seen_55 rfl (lv_at hl 0 rfl) ?_
          refine va_get (D := D) (ci := 4) (v := .int 2) (C := R_K) (T := F_K) (N := 22) hx hb htb iw_K hown hK hP 0 rfl rfl 0 (by decide) (htb _ mw_596) (fun _ h9 => h9) rfl d_K_seen_56 ?_
          refine lv_if_le (tgt := 64) hx hb d_K_seen_59 (by decide) (fun c6 => ?_) (fun c6 => ?_)
          · exact absurd c6 (by decide)
          · refine lv_iconst (v := 0) hx hb d_K_seen_62 (by decide) ?_
            exact hret _ _ _ _ _ rfl (by rw [show t9 = 2 from hT.symm.trans (by simp [seeT, c1, ek, mk, c3, c4, c5, c6])]; exact hP) hS d_K_seen_63
    · replace c3 := bI_f c3
      refine lv_iconst (v := 1) hx hb d_K_seen_19 (by decide) ?_
      refine lv_goto (tgt := 52) hx hb d_K_seen_20 (by decide) ?_
      refine va_put (D := D) (ci := 4) (v := .int 1) (ty := .int) (C := R_K) (T := F_K) (N := 22) hx hb htb iw_K t_K t_K_ok n_K hown hK hP hD hS 0 rfl rfl 0 (by decide) (htb _ mw_596) (fun _ h9 => h9) rfl (by decide +kernel) rfl rfl (Nat.le_of_ble_eq_true rfl) d_K_seen_52 (fun H locs hP hD hS => ?_)
      have hP : va_P D classes (wK an kn h o (upd u 0 1)) H := hP
      have hD : va_D A (wK an kn h o (upd u 0 1)) := hD
      refine lv_aload_n hx hb d_K_seen_55 rfl (lv_at hl 0 rfl) ?_
      refine va_get (D := D) (ci := 4) (v := .int 1) (C := R_K) (T := F_K) (N := 22) hx hb htb iw_K hown hK hP 0 rfl rfl 0 (by decide) (htb _ mw_596) (fun _ h9 => h9) rfl d_K_seen_56 ?_
      refine lv_if_le (tgt := 64) hx hb d_K_seen_59 (by decide) (fun c7 => ?_) (fun c7 => ?_)
      · exact absurd c7 (by decide)
      · refine lv_iconst (v := 0) hx hb d_K_seen_62 (by decide) ?_
        exact hret _ _ _ _ _ rfl (by rw [show t9 = 1 from hT.symm.trans (by simp [seeT, c1, ek, mk, c3, c7])]; exact hP) hS d_K_seen_63
set_option maxHeartbeats 4000000 in
set_option maxRecDepth 100000 in
theorem c_K_like_t (l : Launch) (D : va_G) (an : Nat → Nat) (kn : Nat → ClassId) (h : Nat → Nat → Int32) (o : Nat → Bool) (u : Nat → Int32) (nb : Nat) (hnb : u 1 = nI nb) (hb6 : nb ≤ 60) (x y q : Int32) (t9 : Int32) (hT : likT x y = t9) (h0 : ¬ t9 = 0) : WRi l y_K_like (.code y_K_like b_K_like 7 (some .int) :: TB) ({ frames := 1, cells := 0, slots := 0, locals := 26 } : Room) [.ref (an 0), .int x, .int y, .int q] D classes (wK an kn h o u) (wK an kn h o (upd u 0 t9)) (tK kn) (0) := by
  refine wr_of (by decide +kernel) (rfl) (Nat.le_of_ble_eq_true rfl) ?_
  intro p e s m args below meth c Q ls A hx hb hml htb hown hP hK hD hS hA hl hret
  have hl : lv_has ls 7 [(0, .ref (an 0)), (1, .int x), (2, .int y), (3, .int q)] := hl
  refine lv_aload_n hx hb d_K_like_0 rfl (lv_at hl 0 rfl) ?_
  refine lv_iload_n hx hb d_K_like_1 rfl (lv_at hl 1 rfl) ?_
  refine lv_iconst (v := 0) hx hb d_K_like_2 (by decide) ?_
  refine lv_iconst (v := 3) hx hb d_K_like_3 (by decide) ?_
  refine rdS (As := [.int x, .int 0, .int 3]) (rest := [.ref (an 0)]) ⟨hx, hb, hml, hown, htb⟩ (c_K_in l D (wK an kn h o u) (tK kn) x 0 3) (va_cwS 3 htb (gS tb_good mw_672 mw_673 mw_31 mw_674) rfl rfl rfl (by decide +kernel) ⟨Nat.le_of_ble_eq_true rfl, Nat.le_of_ble_eq_true rfl⟩) hP hK rfl hl.1 rfl (lv_room (Nat.le_of_ble_eq_true rfl)) d_K_like_4 ⟨Nat.zero_le _, Nat.zero_le _⟩ ?_
  refine lv_if_eq (tgt := 24) hx hb d_K_like_7 (by decide) (fun c1 => ?_) (fun c1 => ?_)
  · replace c1 := bI_f c1
    refine lv_iconst (v := 1) hx hb d_K_like_24 (by decide) ?_
    refine va_put (D := D) (ci := 4) (v := .int 1) (ty := .int) (C := R_K) (T := F_K) (N := 22) hx hb htb iw_K t_K t_K_ok n_K hown hK hP hD hS 0 rfl rfl 0 (by decide) (htb _ mw_596) (fun _ h9 => h9) rfl (by decide +kernel) rfl rfl (Nat.le_of_ble_eq_true rfl) d_K_like_25 (fun H locs hP hD hS => ?_)
    have hP : va_P D classes (wK an kn h o (upd u 0 1)) H := hP
    have hD : va_D A (wK an kn h o (upd u 0 1)) := hD
    refine lv_aload_n hx hb d_K_like_28 rfl (lv_at hl 0 rfl) ?_
    refine va_get (D := D) (ci := 4) (v := .int 1) (C := R_K) (T := F_K) (N := 22) hx hb htb iw_K hown hK hP 0 rfl rfl 0 (by decide) (htb _ mw_596) (fun _ h9 => h9) rfl d_K_like_29 ?_
    refine lv_if_le (tgt := 37) hx hb d_K_like_32 (by decide) (fun c2 => ?_) (fun c2 => ?_)
    · exact absurd c2 (by decide)
    · refine lv_iconst (v := 0) hx hb d_K_like_35 (by decide) ?_
      exact hret _ _ _ _ _ rfl (by rw [show t9 = 1 from hT.symm.trans (by simp [likT, c1, c2])]; exact hP) hS d_K_like_36
  · replace c1 := bI_t c1
    refine lv_iload_n hx hb d_K_like_10 rfl (lv_at hl 2 rfl) ?_
    refine lv_iconst (v := 0) hx hb d_K_like_11 (by decide) ?_
    refine lv_ldc (v := 99999999) hx hb hown (htb _ mw_675) d_K_like_12 ?_
    refine rdS (As := [.int y, .int 0, .int 99999999]) (rest := [.ref (an 0)]) ⟨hx, hb, hml, hown, htb⟩ (c_K_in l D (wK an kn h o u) (tK kn) y 0 99999999) (va_cwS 3 htb (gS tb_good mw_672 mw_673 mw_31 mw_674) rfl rfl rfl (by decide +kernel) ⟨Nat.le_of_ble_eq_true rfl, Nat.le_of_ble_eq_true rfl⟩) hP hK rfl hl.1 rfl (lv_room (Nat.le_of_ble_eq_true rfl)) d_K_like_14 ⟨Nat.zero_le _, Nat.zero_le _⟩ ?_
    refine lv_if_eq (tgt := 24) hx hb d_K_like_17 (by decide) (fun c3 => ?_) (fun c3 => ?_)
    · replace c3 := bI_f c3
      refine lv_iconst (v := 1) hx hb d_K_like_24 (by decide) ?_
      refine va_put (D := D) (ci := 4) (v := .int 1) (ty := .int) (C := R_K) (T := F_K) (N := 22) hx hb htb iw_K t_K t_K_ok n_K hown hK hP hD hS 0 rfl rfl 0 (by decide) (htb _ mw_596) (fun _ h9 => h9) rfl (by decide +kernel) rfl rfl (Nat.le_of_ble_eq_true rfl) d_K_like_25 (fun H locs hP hD hS => ?_)
      have hP : va_P D classes (wK an kn h o (upd u 0 1)) H := hP
      have hD : va_D A (wK an kn h o (upd u 0 1)) := hD
      refine lv_aload_n hx hb d_K_like_28 rfl (lv_at hl 0 rfl) ?_
      refine va_get (D := D) (ci := 4) (v := .int 1) (C := R_K) (T := F_K) (N := 22) hx hb htb iw_K hown hK hP 0 rfl rfl 0 (by decide) (htb _ mw_596) (fun _ h9 => h9) rfl d_K_like_29 ?_
      refine lv_if_le (tgt := 37) hx hb d_K_like_32 (by decide) (fun c4 => ?_) (fun c4 => ?_)
      · exact absurd c4 (by decide)
      · refine lv_iconst (v := 0) hx hb d_K_like_35 (by decide) ?_
        exact hret _ _ _ _ _ rfl (by rw [show t9 = 1 from hT.symm.trans (by simp [likT, c1, c3, c4])]; exact hP) hS d_K_like_36
    · replace c3 := bI_t c3
      refine lv_iconst (v := 0) hx hb d_K_like_20 (by decide) ?_
      refine lv_goto (tgt := 25) hx hb d_K_like_21 (by decide) ?_
      refine va_put (D := D) (ci := 4) (v := .int 0) (ty := .int) (C := R_K) (T := F_K) (N := 22) hx hb htb iw_K t_K t_K_ok n_K hown hK hP hD hS 0 rfl rfl 0 (by decide) (htb _ mw_596) (fun _ h9 => h9) rfl (by decide +kernel) rfl rfl (Nat.le_of_ble_eq_true rfl) d_K_like_25 (fun H locs hP hD hS => ?_)
      have hP : va_P D classes (wK an kn h o (upd u 0 0)) H := hP
      have hD : va_D A (wK an kn h o (upd u 0 0)) := hD
      exact absurd (hT.symm.trans (by simp [likT, c1, c3])) h0
set_option maxHeartbeats 4000000 in
set_option maxRecDepth 100000 in
theorem c_K_init (l : Launch) (D : va_G) (h0 : Nat) : CT l y_K_init (.code y_K_init b_K_init 1 none :: TB) ({ frames := 1, cells := 15, slots := 4860, locals := 12 } : Room) [.ref h0] D classes [(h0, .inr (4, [.int 0, .int 0, .int 0, .int 0, .int 0, .int 0, .int 0, .null, .null, .null, .null, .null, .null, .null, .null, .null, .null, .null, .null, .null, .null, .null]))] (wK0 h0) tK0 15 4860 := by
  refine ct_of (by decide +kernel) rfl (Nat.le_of_ble_eq_true rfl) ?_
  intro p e s m args below meth c Q ls A hx hb hml htb hown hin hP hK hD hS hA hl hret
  have hl : lv_has ls 1 [(0, .ref h0)] := hl
  refine lv_aload_n hx hb d_K_init_0 rfl (lv_at hl 0 rfl) ?_
  refine W.objInit hx hb hown (htb _ mw_595) (htb _ mw_47) (htb _ mw_48) rfl (by rw [hml]; exact hl.1) rfl d_K_init_1 (Nat.le_of_ble_eq_true rfl) (Nat.le_of_ble_eq_true rfl) ?_
  refine W.eq (g2 := F0 m 4 ls []) rfl ?_
  refine lv_aload_n hx hb d_K_init_4 rfl (lv_at hl 0 rfl) ?_
  refine lv_bipush (v := 60) hx hb d_K_init_5 (by decide) ?_
  refine va_newa (atype := .int) (ty := .int) (a0 := (60, .inl fun _ => 0)) (N' := 60) hx hb (htb _ mw_88) rfl hK hP hD hS hA (fun _ => rfl) (by decide) (by decide) (by decide) (Nat.le_of_ble_eq_true rfl) (Nat.le_of_ble_eq_true rfl) d_K_init_7 (fun q7 k7 H hK hP hD hS => ?_)
  have hP : va_P D classes [(h0, .inr (4, [.int 0, .int 0, .int 0, .int 0, .int 0, .int 0, .int 0, .null, .null, .null, .null, .null, .null, .null, .null, .null, .null, .null, .null, .null, .null, .null])), (q7, .inl (k7, 60, .inl fun _ => 0))] H := hP
  have hD : va_D A [(h0, .inr (4, [.int 0, .int 0, .int 0, .int 0, .int 0, .int 0, .int 0, .null, .null, .null, .null, .null, .null, .null, .null, .null, .null, .null, .null, .null, .null, .null])), (q7, .inl (k7, 60, .inl fun _ => 0))] := hD
  have hK : va_K D classes [(k7, .int)] s := hK
  refine va_putF (D := D) (ci := 4) (v := .ref q7) (ty := .array .int) (C := R_K) (T := F_K) (N := 22) hx hb htb iw_K t_K t_K_ok n_K hown hK hP hD hS 0 rfl rfl 7 (by decide) (htb _ mw_603) (fun _ h9 => h9) rfl hin rfl (by decide +kernel) rfl rfl (Nat.le_of_ble_eq_true rfl) d_K_init_9 (fun H locs hP hD hS => ?_)
  have hP : va_P D classes [(h0, .inr (4, [.int 0, .int 0, .int 0, .int 0, .int 0, .int 0, .int 0, .ref q7, .null, .null, .null, .null, .null, .null, .null, .null, .null, .null, .null, .null, .null, .null])), (q7, .inl (k7, 60, .inl fun _ => 0))] H := hP
  have hD : va_D A [(h0, .inr (4, [.int 0, .int 0, .int 0, .int 0, .int 0, .int 0, .int 0, .ref q7, .null, .null, .null, .null, .null, .null, .null, .null, .null, .null, .null, .null, .null, .null])), (q7, .inl (k7, 60, .inl fun _ => 0))] := hD
  refine lv_aload_n hx hb d_K_init_12 rfl (lv_at hl 0 rfl) ?_
  refine lv_bipush (v := 60) hx hb d_K_init_13 (by decide) ?_
  refine va_newa (atype := .int) (ty := .int) (a0 := (60, .inl fun _ => 0)) (N' := 60) hx hb (htb _ mw_88) rfl hK hP hD hS hA (fun _ => rfl) (by decide) (by decide) (by decide) (Nat.le_of_ble_eq_true rfl) (Nat.le_of_ble_eq_true rfl) d_K_init_15 (fun q15 k15 H hK hP hD hS => ?_)
  have hP : va_P D classes [(h0, .inr (4, [.int 0, .int 0, .int 0, .int 0, .int 0, .int 0, .int 0, .ref q7, .null, .null, .null, .null, .null, .null, .null, .null, .null, .null, .null, .null, .null, .null])), (q7, .inl (k7, 60, .inl fun _ => 0)), (q15, .inl (k15, 60, .inl fun _ => 0))] H := hP
  have hD : va_D A [(h0, .inr (4, [.int 0, .int 0, .int 0, .int 0, .int 0, .int 0, .int 0, .ref q7, .null, .null, .null, .null, .null, .null, .null, .null, .null, .null, .null, .null, .null, .null])), (q7, .inl (k7, 60, .inl fun _ => 0)), (q15, .inl (k15, 60, .inl fun _ => 0))] := hD
  have hK : va_K D classes [(k7, .int), (k15, .int)] s := hK
  refine va_putF (D := D) (ci := 4) (v := .ref q15) (ty := .array .int) (C := R_K) (T := F_K) (N := 22) hx hb htb iw_K t_K t_K_ok n_K hown hK hP hD hS 0 rfl rfl 8 (by decide) (htb _ mw_604) (fun _ h9 => h9) rfl hin rfl (by decide +kernel) rfl rfl (Nat.le_of_ble_eq_true rfl) d_K_init_17 (fun H locs hP hD hS => ?_)
  have hP : va_P D classes [(h0, .inr (4, [.int 0, .int 0, .int 0, .int 0, .int 0, .int 0, .int 0, .ref q7, .ref q15, .null, .null, .null, .null, .null, .null, .null, .null, .null, .null, .null, .null, .null])), (q7, .inl (k7, 60, .inl fun _ => 0)), (q15, .inl (k15, 60, .inl fun _ => 0))] H := hP
  have hD : va_D A [(h0, .inr (4, [.int 0, .int 0, .int 0, .int 0, .int 0, .int 0, .int 0, .ref q7, .ref q15, .null, .null, .null, .null, .null, .null, .null, .null, .null, .null, .null, .null, .null])), (q7, .inl (k7, 60, .inl fun _ => 0)), (q15, .inl (k15, 60, .inl fun _ => 0))] := hD
  refine lv_aload_n hx hb d_K_init_20 rfl (lv_at hl 0 rfl) ?_
  refine lv_bipush (v := 60) hx hb d_K_init_21 (by decide) ?_
  refine va_newa (atype := .int) (ty := .int) (a0 := (60, .inl fun _ => 0)) (N' := 60) hx hb (htb _ mw_88) rfl hK hP hD hS hA (fun _ => rfl) (by decide) (by decide) (by decide) (Nat.le_of_ble_eq_true rfl) (Nat.le_of_ble_eq_true rfl) d_K_init_23 (fun q23 k23 H hK hP hD hS => ?_)
  have hP : va_P D classes [(h0, .inr (4, [.int 0, .int 0, .int 0, .int 0, .int 0, .int 0, .int 0, .ref q7, .ref q15, .null, .null, .null, .null, .null, .null, .null, .null, .null, .null, .null, .null, .null])), (q7, .inl (k7, 60, .inl fun _ => 0)), (q15, .inl (k15, 60, .inl fun _ => 0)), (q23, .inl (k23, 60, .inl fun _ => 0))] H := hP
  have hD : va_D A [(h0, .inr (4, [.int 0, .int 0, .int 0, .int 0, .int 0, .int 0, .int 0, .ref q7, .ref q15, .null, .null, .null, .null, .null, .null, .null, .null, .null, .null, .null, .null, .null])), (q7, .inl (k7, 60, .inl fun _ => 0)), (q15, .inl (k15, 60, .inl fun _ => 0)), (q23, .inl (k23, 60, .inl fun _ => 0))] := hD
  have hK : va_K D classes [(k7, .int), (k15, .int), (k23, .int)] s := hK
  refine va_putF (D := D) (ci := 4) (v := .ref q23) (ty := .array .int) (C := R_K) (T := F_K) (N := 22) hx hb htb iw_K t_K t_K_ok n_K hown hK hP hD hS 0 rfl rfl 9 (by decide) (htb _ mw_605) (fun _ h9 => h9) rfl hin rfl (by decide +kernel) rfl rfl (Nat.le_of_ble_eq_true rfl) d_K_init_25 (fun H locs hP hD hS => ?_)
  have hP : va_P D classes [(h0, .inr (4, [.int 0, .int 0, .int 0, .int 0, .int 0, .int 0, .int 0, .ref q7, .ref q15, .ref q23, .null, .null, .null, .null, .null, .null, .null, .null, .null, .null, .null, .null])), (q7, .inl (k7, 60, .inl fun _ => 0)), (q15, .inl (k15, 60, .inl fun _ => 0)), (q23, .inl (k23, 60, .inl fun _ => 0))] H := hP
  have hD : va_D A [(h0, .inr (4, [.int 0, .int 0, .int 0, .int 0, .int 0, .int 0, .int 0, .ref q7, .ref q15, .ref q23, .null, .null, .null, .null, .null, .null, .null, .null, .null, .null, .null, .null])), (q7, .inl (k7, 60, .inl fun _ => 0)), (q15, .inl (k15, 60, .inl fun _ => 0)), (q23, .inl (k23, 60, .inl fun _ => 0))] := hD
  refine lv_aload_n hx hb d_K_init_28 rfl (lv_at hl 0 rfl) ?_
  refine lv_bipush (v := 60) hx hb d_K_init_29 (by decide) ?_
  refine va_newa (atype := .int) (ty := .int) (a0 := (60, .inl fun _ => 0)) (N' := 60) hx hb (htb _ mw_88) rfl hK hP hD hS hA (fun _ => rfl) (by decide) (by decide) (by decide) (Nat.le_of_ble_eq_true rfl) (Nat.le_of_ble_eq_true rfl) d_K_init_31 (fun q31 k31 H hK hP hD hS => ?_)
  have hP : va_P D classes [(h0, .inr (4, [.int 0, .int 0, .int 0, .int 0, .int 0, .int 0, .int 0, .ref q7, .ref q15, .ref q23, .null, .null, .null, .null, .null, .null, .null, .null, .null, .null, .null, .null])), (q7, .inl (k7, 60, .inl fun _ => 0)), (q15, .inl (k15, 60, .inl fun _ => 0)), (q23, .inl (k23, 60, .inl fun _ => 0)), (q31, .inl (k31, 60, .inl fun _ => 0))] H := hP
  have hD : va_D A [(h0, .inr (4, [.int 0, .int 0, .int 0, .int 0, .int 0, .int 0, .int 0, .ref q7, .ref q15, .ref q23, .null, .null, .null, .null, .null, .null, .null, .null, .null, .null, .null, .null])), (q7, .inl (k7, 60, .inl fun _ => 0)), (q15, .inl (k15, 60, .inl fun _ => 0)), (q23, .inl (k23, 60, .inl fun _ => 0)), (q31, .inl (k31, 60, .inl fun _ => 0))] := hD
  have hK : va_K D classes [(k7, .int), (k15, .int), (k23, .int), (k31, .int)] s := hK
  refine va_putF (D := D) (ci := 4) (v := .ref q31) (ty := .array .int) (C := R_K) (T := F_K) (N := 22) hx hb htb iw_K t_K t_K_ok n_K hown hK hP hD hS 0 rfl rfl 10 (by decide) (htb _ mw_606) (fun _ h9 => h9) rfl hin rfl (by decide +kernel) rfl rfl (Nat.le_of_ble_eq_true rfl) d_K_init_33 (fun H locs hP hD hS => ?_)
  have hP : va_P D classes [(h0, .inr (4, [.int 0, .int 0, .int 0, .int 0, .int 0, .int 0, .int 0, .ref q7, .ref q15, .ref q23, .ref q31, .null, .null, .null, .null, .null, .null, .null, .null, .null, .null, .null])), (q7, .inl (k7, 60, .inl fun _ => 0)), (q15, .inl (k15, 60, .inl fun _ => 0)), (q23, .inl (k23, 60, .inl fun _ => 0)), (q31, .inl (k31, 60, .inl fun _ => 0))] H := hP
  have hD : va_D A [(h0, .inr (4, [.int 0, .int 0, .int 0, .int 0, .int 0, .int 0, .int 0, .ref q7, .ref q15, .ref q23, .ref q31, .null, .null, .null, .null, .null, .null, .null, .null, .null, .null, .null])), (q7, .inl (k7, 60, .inl fun _ => 0)), (q15, .inl (k15, 60, .inl fun _ => 0)), (q23, .inl (k23, 60, .inl fun _ => 0)), (q31, .inl (k31, 60, .inl fun _ => 0))] := hD
  refine lv_aload_n hx hb d_K_init_36 rfl (lv_at hl 0 rfl) ?_
  refine lv_bipush (v := 60) hx hb d_K_init_37 (by decide) ?_
  refine va_newa (atype := .int) (ty := .int) (a0 := (60, .inl fun _ => 0)) (N' := 60) hx hb (htb _ mw_88) rfl hK hP hD hS hA (fun _ => rfl) (by decide) (by decide) (by decide) (Nat.le_of_ble_eq_true rfl) (Nat.le_of_ble_eq_true rfl) d_K_init_39 (fun q39 k39 H hK hP hD hS => ?_)
  have hP : va_P D classes [(h0, .inr (4, [.int 0, .int 0, .int 0, .int 0, .int 0, .int 0, .int 0, .ref q7, .ref q15, .ref q23, .ref q31, .null, .null, .null, .null, .null, .null, .null, .null, .null, .null, .null])), (q7, .inl (k7, 60, .inl fun _ => 0)), (q15, .inl (k15, 60, .inl fun _ => 0)), (q23, .inl (k23, 60, .inl fun _ => 0)), (q31, .inl (k31, 60, .inl fun _ => 0)), (q39, .inl (k39, 60, .inl fun _ => 0))] H := hP
  have hD : va_D A [(h0, .inr (4, [.int 0, .int 0, .int 0, .int 0, .int 0, .int 0, .int 0, .ref q7, .ref q15, .ref q23, .ref q31, .null, .null, .null, .null, .null, .null, .null, .null, .null, .null, .null])), (q7, .inl (k7, 60, .inl fun _ => 0)), (q15, .inl (k15, 60, .inl fun _ => 0)), (q23, .inl (k23, 60, .inl fun _ => 0)), (q31, .inl (k31, 60, .inl fun _ => 0)), (q39, .inl (k39, 60, .inl fun _ => 0))] := hD
  have hK : va_K D classes [(k7, .int), (k15, .int), (k23, .int), (k31, .int), (k39, .int)] s := hK
  refine va_putF (D := D) (ci := 4) (v := .ref q39) (ty := .array .int) (C := R_K) (T := F_K) (N := 22) hx hb htb iw_K t_K t_K_ok n_K hown hK hP hD hS 0 rfl rfl 11 (by decide) (htb _ mw_607) (fun _ h9 => h9) rfl hin rfl (by decide +kernel) rfl rfl (Nat.le_of_ble_eq_true rfl) d_K_init_41 (fun H locs hP hD hS => ?_)
  have hP : va_P D classes [(h0, .inr (4, [.int 0, .int 0, .int 0, .int 0, .int 0, .int 0, .int 0, .ref q7, .ref q15, .ref q23, .ref q31, .ref q39, .null, .null, .null, .null, .null, .null, .null, .null, .null, .null])), (q7, .inl (k7, 60, .inl fun _ => 0)), (q15, .inl (k15, 60, .inl fun _ => 0)), (q23, .inl (k23, 60, .inl fun _ => 0)), (q31, .inl (k31, 60, .inl fun _ => 0)), (q39, .inl (k39, 60, .inl fun _ => 0))] H := hP
  have hD : va_D A [(h0, .inr (4, [.int 0, .int 0, .int 0, .int 0, .int 0, .int 0, .int 0, .ref q7, .ref q15, .ref q23, .ref q31, .ref q39, .null, .null, .null, .null, .null, .null, .null, .null, .null, .null])), (q7, .inl (k7, 60, .inl fun _ => 0)), (q15, .inl (k15, 60, .inl fun _ => 0)), (q23, .inl (k23, 60, .inl fun _ => 0)), (q31, .inl (k31, 60, .inl fun _ => 0)), (q39, .inl (k39, 60, .inl fun _ => 0))] := hD
  refine lv_aload_n hx hb d_K_init_44 rfl (lv_at hl 0 rfl) ?_
  refine lv_sipush (v := 200) hx hb d_K_init_45 (by decide) ?_
  refine va_newa (atype := .int) (ty := .int) (a0 := (200, .inl fun _ => 0)) (N' := 200) hx hb (htb _ mw_88) rfl hK hP hD hS hA (fun _ => rfl) (by decide) (by decide) (by decide) (Nat.le_of_ble_eq_true rfl) (Nat.le_of_ble_eq_true rfl) d_K_init_48 (fun q48 k48 H hK hP hD hS => ?_)
  have hP : va_P D classes [(h0, .inr (4, [.int 0, .int 0, .int 0, .int 0, .int 0, .int 0, .int 0, .ref q7, .ref q15, .ref q23, .ref q31, .ref q39, .null, .null, .null, .null, .null, .null, .null, .null, .null, .null])), (q7, .inl (k7, 60, .inl fun _ => 0)), (q15, .inl (k15, 60, .inl fun _ => 0)), (q23, .inl (k23, 60, .inl fun _ => 0)), (q31, .inl (k31, 60, .inl fun _ => 0)), (q39, .inl (k39, 60, .inl fun _ => 0)), (q48, .inl (k48, 200, .inl fun _ => 0))] H := hP
  have hD : va_D A [(h0, .inr (4, [.int 0, .int 0, .int 0, .int 0, .int 0, .int 0, .int 0, .ref q7, .ref q15, .ref q23, .ref q31, .ref q39, .null, .null, .null, .null, .null, .null, .null, .null, .null, .null])), (q7, .inl (k7, 60, .inl fun _ => 0)), (q15, .inl (k15, 60, .inl fun _ => 0)), (q23, .inl (k23, 60, .inl fun _ => 0)), (q31, .inl (k31, 60, .inl fun _ => 0)), (q39, .inl (k39, 60, .inl fun _ => 0)), (q48, .inl (k48, 200, .inl fun _ => 0))] := hD
  have hK : va_K D classes [(k7, .int), (k15, .int), (k23, .int), (k31, .int), (k39, .int), (k48, .int)] s := hK
  refine va_putF (D := D) (ci := 4) (v := .ref q48) (ty := .array .int) (C := R_K) (T := F_K) (N := 22) hx hb htb iw_K t_K t_K_ok n_K hown hK hP hD hS 0 rfl rfl 12 (by decide) (htb _ mw_608) (fun _ h9 => h9) rfl hin rfl (by decide +kernel) rfl rfl (Nat.le_of_ble_eq_true rfl) d_K_init_50 (fun H locs hP hD hS => ?_)
  have hP : va_P D classes [(h0, .inr (4, [.int 0, .int 0, .int 0, .int 0, .int 0, .int 0, .int 0, .ref q7, .ref q15, .ref q23, .ref q31, .ref q39, .ref q48, .null, .null, .null, .null, .null, .null, .null, .null, .null])), (q7, .inl (k7, 60, .inl fun _ => 0)), (q15, .inl (k15, 60, .inl fun _ => 0)), (q23, .inl (k23, 60, .inl fun _ => 0)), (q31, .inl (k31, 60, .inl fun _ => 0)), (q39, .inl (k39, 60, .inl fun _ => 0)), (q48, .inl (k48, 200, .inl fun _ => 0))] H := hP
  have hD : va_D A [(h0, .inr (4, [.int 0, .int 0, .int 0, .int 0, .int 0, .int 0, .int 0, .ref q7, .ref q15, .ref q23, .ref q31, .ref q39, .ref q48, .null, .null, .null, .null, .null, .null, .null, .null, .null])), (q7, .inl (k7, 60, .inl fun _ => 0)), (q15, .inl (k15, 60, .inl fun _ => 0)), (q23, .inl (k23, 60, .inl fun _ => 0)), (q31, .inl (k31, 60, .inl fun _ => 0)), (q39, .inl (k39, 60, .inl fun _ => 0)), (q48, .inl (k48, 200, .inl fun _ => 0))] := hD
  refine lv_aload_n hx hb d_K_init_53 rfl (lv_at hl 0 rfl) ?_
  refine lv_sipush (v := 200) hx hb d_K_init_54 (by decide) ?_
  refine va_newa (atype := .int) (ty := .int) (a0 := (200, .inl fun _ => 0)) (N' := 200) hx hb (htb _ mw_88) rfl hK hP hD hS hA (fun _ => rfl) (by decide) (by decide) (by decide) (Nat.le_of_ble_eq_true rfl) (Nat.le_of_ble_eq_true rfl) d_K_init_57 (fun q57 k57 H hK hP hD hS => ?_)
  have hP : va_P D classes [(h0, .inr (4, [.int 0, .int 0, .int 0, .int 0, .int 0, .int 0, .int 0, .ref q7, .ref q15, .ref q23, .ref q31, .ref q39, .ref q48, .null, .null, .null, .null, .null, .null, .null, .null, .null])), (q7, .inl (k7, 60, .inl fun _ => 0)), (q15, .inl (k15, 60, .inl fun _ => 0)), (q23, .inl (k23, 60, .inl fun _ => 0)), (q31, .inl (k31, 60, .inl fun _ => 0)), (q39, .inl (k39, 60, .inl fun _ => 0)), (q48, .inl (k48, 200, .inl fun _ => 0)), (q57, .inl (k57, 200, .inl fun _ => 0))] H := hP
  have hD : va_D A [(h0, .inr (4, [.int 0, .int 0, .int 0, .int 0, .int 0, .int 0, .int 0, .ref q7, .ref q15, .ref q23, .ref q31, .ref q39, .ref q48, .null, .null, .null, .null, .null, .null, .null, .null, .null])), (q7, .inl (k7, 60, .inl fun _ => 0)), (q15, .inl (k15, 60, .inl fun _ => 0)), (q23, .inl (k23, 60, .inl fun _ => 0)), (q31, .inl (k31, 60, .inl fun _ => 0)), (q39, .inl (k39, 60, .inl fun _ => 0)), (q48, .inl (k48, 200, .inl fun _ => 0)), (q57, .inl (k57, 200, .inl fun _ => 0))] := hD
  have hK : va_K D classes [(k7, .int), (k15, .int), (k23, .int), (k31, .int), (k39, .int), (k48, .int), (k57, .int)] s := hK
  refine va_putF (D := D) (ci := 4) (v := .ref q57) (ty := .array .int) (C := R_K) (T := F_K) (N := 22) hx hb htb iw_K t_K t_K_ok n_K hown hK hP hD hS 0 rfl rfl 13 (by decide) (htb _ mw_609) (fun _ h9 => h9) rfl hin rfl (by decide +kernel) rfl rfl (Nat.le_of_ble_eq_true rfl) d_K_init_59 (fun H locs hP hD hS => ?_)
  have hP : va_P D classes [(h0, .inr (4, [.int 0, .int 0, .int 0, .int 0, .int 0, .int 0, .int 0, .ref q7, .ref q15, .ref q23, .ref q31, .ref q39, .ref q48, .ref q57, .null, .null, .null, .null, .null, .null, .null, .null])), (q7, .inl (k7, 60, .inl fun _ => 0)), (q15, .inl (k15, 60, .inl fun _ => 0)), (q23, .inl (k23, 60, .inl fun _ => 0)), (q31, .inl (k31, 60, .inl fun _ => 0)), (q39, .inl (k39, 60, .inl fun _ => 0)), (q48, .inl (k48, 200, .inl fun _ => 0)), (q57, .inl (k57, 200, .inl fun _ => 0))] H := hP
  have hD : va_D A [(h0, .inr (4, [.int 0, .int 0, .int 0, .int 0, .int 0, .int 0, .int 0, .ref q7, .ref q15, .ref q23, .ref q31, .ref q39, .ref q48, .ref q57, .null, .null, .null, .null, .null, .null, .null, .null])), (q7, .inl (k7, 60, .inl fun _ => 0)), (q15, .inl (k15, 60, .inl fun _ => 0)), (q23, .inl (k23, 60, .inl fun _ => 0)), (q31, .inl (k31, 60, .inl fun _ => 0)), (q39, .inl (k39, 60, .inl fun _ => 0)), (q48, .inl (k48, 200, .inl fun _ => 0)), (q57, .inl (k57, 200, .inl fun _ => 0))] := hD
  refine lv_aload_n hx hb d_K_init_62 rfl (lv_at hl 0 rfl) ?_
  refine lv_sipush (v := 200) hx hb d_K_init_63 (by decide) ?_
  refine va_newa (atype := .int) (ty := .int) (a0 := (200, .inl fun _ => 0)) (N' := 200) hx hb (htb _ mw_88) rfl hK hP hD hS hA (fun _ => rfl) (by decide) (by decide) (by decide) (Nat.le_of_ble_eq_true rfl) (Nat.le_of_ble_eq_true rfl) d_K_init_66 (fun q66 k66 H hK hP hD hS => ?_)
  have hP : va_P D classes [(h0, .inr (4, [.int 0, .int 0, .int 0, .int 0, .int 0, .int 0, .int 0, .ref q7, .ref q15, .ref q23, .ref q31, .ref q39, .ref q48, .ref q57, .null, .null, .null, .null, .null, .null, .null, .null])), (q7, .inl (k7, 60, .inl fun _ => 0)), (q15, .inl (k15, 60, .inl fun _ => 0)), (q23, .inl (k23, 60, .inl fun _ => 0)), (q31, .inl (k31, 60, .inl fun _ => 0)), (q39, .inl (k39, 60, .inl fun _ => 0)), (q48, .inl (k48, 200, .inl fun _ => 0)), (q57, .inl (k57, 200, .inl fun _ => 0)), (q66, .inl (k66, 200, .inl fun _ => 0))] H := hP
  have hD : va_D A [(h0, .inr (4, [.int 0, .int 0, .int 0, .int 0, .int 0, .int 0, .int 0, .ref q7, .ref q15, .ref q23, .ref q31, .ref q39, .ref q48, .ref q57, .null, .null, .null, .null, .null, .null, .null, .null])), (q7, .inl (k7, 60, .inl fun _ => 0)), (q15, .inl (k15, 60, .inl fun _ => 0)), (q23, .inl (k23, 60, .inl fun _ => 0)), (q31, .inl (k31, 60, .inl fun _ => 0)), (q39, .inl (k39, 60, .inl fun _ => 0)), (q48, .inl (k48, 200, .inl fun _ => 0)), (q57, .inl (k57, 200, .inl fun _ => 0)), (q66, .inl (k66, 200, .inl fun _ => 0))] := hD
  have hK : va_K D classes [(k7, .int), (k15, .int), (k23, .int), (k31, .int), (k39, .int), (k48, .int), (k57, .int), (k66, .int)] s := hK
  refine va_putF (D := D) (ci := 4) (v := .ref q66) (ty := .array .int) (C := R_K) (T := F_K) (N := 22) hx hb htb iw_K t_K t_K_ok n_K hown hK hP hD hS 0 rfl rfl 14 (by decide) (htb _ mw_610) (fun _ h9 => h9) rfl hin rfl (by decide +kernel) rfl rfl (Nat.le_of_ble_eq_true rfl) d_K_init_68 (fun H locs hP hD hS => ?_)
  have hP : va_P D classes [(h0, .inr (4, [.int 0, .int 0, .int 0, .int 0, .int 0, .int 0, .int 0, .ref q7, .ref q15, .ref q23, .ref q31, .ref q39, .ref q48, .ref q57, .ref q66, .null, .null, .null, .null, .null, .null, .null])), (q7, .inl (k7, 60, .inl fun _ => 0)), (q15, .inl (k15, 60, .inl fun _ => 0)), (q23, .inl (k23, 60, .inl fun _ => 0)), (q31, .inl (k31, 60, .inl fun _ => 0)), (q39, .inl (k39, 60, .inl fun _ => 0)), (q48, .inl (k48, 200, .inl fun _ => 0)), (q57, .inl (k57, 200, .inl fun _ => 0)), (q66, .inl (k66, 200, .inl fun _ => 0))] H := hP
  have hD : va_D A [(h0, .inr (4, [.int 0, .int 0, .int 0, .int 0, .int 0, .int 0, .int 0, .ref q7, .ref q15, .ref q23, .ref q31, .ref q39, .ref q48, .ref q57, .ref q66, .null, .null, .null, .null, .null, .null, .null])), (q7, .inl (k7, 60, .inl fun _ => 0)), (q15, .inl (k15, 60, .inl fun _ => 0)), (q23, .inl (k23, 60, .inl fun _ => 0)), (q31, .inl (k31, 60, .inl fun _ => 0)), (q39, .inl (k39, 60, .inl fun _ => 0)), (q48, .inl (k48, 200, .inl fun _ => 0)), (q57, .inl (k57, 200, .inl fun _ => 0)), (q66, .inl (k66, 200, .inl fun _ => 0))] := hD
  refine lv_aload_n hx hb d_K_init_71 rfl (lv_at hl 0 rfl) ?_
  refine lv_bipush (v := 60) hx hb d_K_init_72 (by decide) ?_
  refine va_newa (atype := .int) (ty := .int) (a0 := (60, .inl fun _ => 0)) (N' := 60) hx hb (htb _ mw_88) rfl hK hP hD hS hA (fun _ => rfl) (by decide) (by decide) (by decide) (Nat.le_of_ble_eq_true rfl) (Nat.le_of_ble_eq_true rfl) d_K_init_74 (fun q74 k74 H hK hP hD hS => ?_)
  have hP : va_P D classes [(h0, .inr (4, [.int 0, .int 0, .int 0, .int 0, .int 0, .int 0, .int 0, .ref q7, .ref q15, .ref q23, .ref q31, .ref q39, .ref q48, .ref q57, .ref q66, .null, .null, .null, .null, .null, .null, .null])), (q7, .inl (k7, 60, .inl fun _ => 0)), (q15, .inl (k15, 60, .inl fun _ => 0)), (q23, .inl (k23, 60, .inl fun _ => 0)), (q31, .inl (k31, 60, .inl fun _ => 0)), (q39, .inl (k39, 60, .inl fun _ => 0)), (q48, .inl (k48, 200, .inl fun _ => 0)), (q57, .inl (k57, 200, .inl fun _ => 0)), (q66, .inl (k66, 200, .inl fun _ => 0)), (q74, .inl (k74, 60, .inl fun _ => 0))] H := hP
  have hD : va_D A [(h0, .inr (4, [.int 0, .int 0, .int 0, .int 0, .int 0, .int 0, .int 0, .ref q7, .ref q15, .ref q23, .ref q31, .ref q39, .ref q48, .ref q57, .ref q66, .null, .null, .null, .null, .null, .null, .null])), (q7, .inl (k7, 60, .inl fun _ => 0)), (q15, .inl (k15, 60, .inl fun _ => 0)), (q23, .inl (k23, 60, .inl fun _ => 0)), (q31, .inl (k31, 60, .inl fun _ => 0)), (q39, .inl (k39, 60, .inl fun _ => 0)), (q48, .inl (k48, 200, .inl fun _ => 0)), (q57, .inl (k57, 200, .inl fun _ => 0)), (q66, .inl (k66, 200, .inl fun _ => 0)), (q74, .inl (k74, 60, .inl fun _ => 0))] := hD
  have hK : va_K D classes [(k7, .int), (k15, .int), (k23, .int), (k31, .int), (k39, .int), (k48, .int), (k57, .int), (k66, .int), (k74, .int)] s := hK
  refine va_putF (D := D) (ci := 4) (v := .ref q74) (ty := .array .int) (C := R_K) (T := F_K) (N := 22) hx hb htb iw_K t_K t_K_ok n_K hown hK hP hD hS 0 rfl rfl 15 (by decide) (htb _ mw_611) (fun _ h9 => h9) rfl hin rfl (by decide +kernel) rfl rfl (Nat.le_of_ble_eq_true rfl) d_K_init_76 (fun H locs hP hD hS => ?_)
  have hP : va_P D classes [(h0, .inr (4, [.int 0, .int 0, .int 0, .int 0, .int 0, .int 0, .int 0, .ref q7, .ref q15, .ref q23, .ref q31, .ref q39, .ref q48, .ref q57, .ref q66, .ref q74, .null, .null, .null, .null, .null, .null])), (q7, .inl (k7, 60, .inl fun _ => 0)), (q15, .inl (k15, 60, .inl fun _ => 0)), (q23, .inl (k23, 60, .inl fun _ => 0)), (q31, .inl (k31, 60, .inl fun _ => 0)), (q39, .inl (k39, 60, .inl fun _ => 0)), (q48, .inl (k48, 200, .inl fun _ => 0)), (q57, .inl (k57, 200, .inl fun _ => 0)), (q66, .inl (k66, 200, .inl fun _ => 0)), (q74, .inl (k74, 60, .inl fun _ => 0))] H := hP
  have hD : va_D A [(h0, .inr (4, [.int 0, .int 0, .int 0, .int 0, .int 0, .int 0, .int 0, .ref q7, .ref q15, .ref q23, .ref q31, .ref q39, .ref q48, .ref q57, .ref q66, .ref q74, .null, .null, .null, .null, .null, .null])), (q7, .inl (k7, 60, .inl fun _ => 0)), (q15, .inl (k15, 60, .inl fun _ => 0)), (q23, .inl (k23, 60, .inl fun _ => 0)), (q31, .inl (k31, 60, .inl fun _ => 0)), (q39, .inl (k39, 60, .inl fun _ => 0)), (q48, .inl (k48, 200, .inl fun _ => 0)), (q57, .inl (k57, 200, .inl fun _ => 0)), (q66, .inl (k66, 200, .inl fun _ => 0)), (q74, .inl (k74, 60, .inl fun _ => 0))] := hD
  refine lv_aload_n hx hb d_K_init_79 rfl (lv_at hl 0 rfl) ?_
  refine lv_bipush (v := 60) hx hb d_K_init_80 (by decide) ?_
  refine va_newa (atype := .int) (ty := .int) (a0 := (60, .inl fun _ => 0)) (N' := 60) hx hb (htb _ mw_88) rfl hK hP hD hS hA (fun _ => rfl) (by decide) (by decide) (by decide) (Nat.le_of_ble_eq_true rfl) (Nat.le_of_ble_eq_true rfl) d_K_init_82 (fun q82 k82 H hK hP hD hS => ?_)
  have hP : va_P D classes [(h0, .inr (4, [.int 0, .int 0, .int 0, .int 0, .int 0, .int 0, .int 0, .ref q7, .ref q15, .ref q23, .ref q31, .ref q39, .ref q48, .ref q57, .ref q66, .ref q74, .null, .null, .null, .null, .null, .null])), (q7, .inl (k7, 60, .inl fun _ => 0)), (q15, .inl (k15, 60, .inl fun _ => 0)), (q23, .inl (k23, 60, .inl fun _ => 0)), (q31, .inl (k31, 60, .inl fun _ => 0)), (q39, .inl (k39, 60, .inl fun _ => 0)), (q48, .inl (k48, 200, .inl fun _ => 0)), (q57, .inl (k57, 200, .inl fun _ => 0)), (q66, .inl (k66, 200, .inl fun _ => 0)), (q74, .inl (k74, 60, .inl fun _ => 0)), (q82, .inl (k82, 60, .inl fun _ => 0))] H := hP
  have hD : va_D A [(h0, .inr (4, [.int 0, .int 0, .int 0, .int 0, .int 0, .int 0, .int 0, .ref q7, .ref q15, .ref q23, .ref q31, .ref q39, .ref q48, .ref q57, .ref q66, .ref q74, .null, .null, .null, .null, .null, .null])), (q7, .inl (k7, 60, .inl fun _ => 0)), (q15, .inl (k15, 60, .inl fun _ => 0)), (q23, .inl (k23, 60, .inl fun _ => 0)), (q31, .inl (k31, 60, .inl fun _ => 0)), (q39, .inl (k39, 60, .inl fun _ => 0)), (q48, .inl (k48, 200, .inl fun _ => 0)), (q57, .inl (k57, 200, .inl fun _ => 0)), (q66, .inl (k66, 200, .inl fun _ => 0)), (q74, .inl (k74, 60, .inl fun _ => 0)), (q82, .inl (k82, 60, .inl fun _ => 0))] := hD
  have hK : va_K D classes [(k7, .int), (k15, .int), (k23, .int), (k31, .int), (k39, .int), (k48, .int), (k57, .int), (k66, .int), (k74, .int), (k82, .int)] s := hK
  refine va_putF (D := D) (ci := 4) (v := .ref q82) (ty := .array .int) (C := R_K) (T := F_K) (N := 22) hx hb htb iw_K t_K t_K_ok n_K hown hK hP hD hS 0 rfl rfl 16 (by decide) (htb _ mw_612) (fun _ h9 => h9) rfl hin rfl (by decide +kernel) rfl rfl (Nat.le_of_ble_eq_true rfl) d_K_init_84 (fun H locs hP hD hS => ?_)
  have hP : va_P D classes [(h0, .inr (4, [.int 0, .int 0, .int 0, .int 0, .int 0, .int 0, .int 0, .ref q7, .ref q15, .ref q23, .ref q31, .ref q39, .ref q48, .ref q57, .ref q66, .ref q74, .ref q82, .null, .null, .null, .null, .null])), (q7, .inl (k7, 60, .inl fun _ => 0)), (q15, .inl (k15, 60, .inl fun _ => 0)), (q23, .inl (k23, 60, .inl fun _ => 0)), (q31, .inl (k31, 60, .inl fun _ => 0)), (q39, .inl (k39, 60, .inl fun _ => 0)), (q48, .inl (k48, 200, .inl fun _ => 0)), (q57, .inl (k57, 200, .inl fun _ => 0)), (q66, .inl (k66, 200, .inl fun _ => 0)), (q74, .inl (k74, 60, .inl fun _ => 0)), (q82, .inl (k82, 60, .inl fun _ => 0))] H := hP
  have hD : va_D A [(h0, .inr (4, [.int 0, .int 0, .int 0, .int 0, .int 0, .int 0, .int 0, .ref q7, .ref q15, .ref q23, .ref q31, .ref q39, .ref q48, .ref q57, .ref q66, .ref q74, .ref q82, .null, .null, .null, .null, .null])), (q7, .inl (k7, 60, .inl fun _ => 0)), (q15, .inl (k15, 60, .inl fun _ => 0)), (q23, .inl (k23, 60, .inl fun _ => 0)), (q31, .inl (k31, 60, .inl fun _ => 0)), (q39, .inl (k39, 60, .inl fun _ => 0)), (q48, .inl (k48, 200, .inl fun _ => 0)), (q57, .inl (k57, 200, .inl fun _ => 0)), (q66, .inl (k66, 200, .inl fun _ => 0)), (q74, .inl (k74, 60, .inl fun _ => 0)), (q82, .inl (k82, 60, .inl fun _ => 0))] := hD
  refine lv_aload_n hx hb d_K_init_87 rfl (lv_at hl 0 rfl) ?_
  refine lv_bipush (v := 60) hx hb d_K_init_88 (by decide) ?_
  refine va_newa (atype := .int) (ty := .int) (a0 := (60, .inl fun _ => 0)) (N' := 60) hx hb (htb _ mw_88) rfl hK hP hD hS hA (fun _ => rfl) (by decide) (by decide) (by decide) (Nat.le_of_ble_eq_true rfl) (Nat.le_of_ble_eq_true rfl) d_K_init_90 (fun q90 k90 H hK hP hD hS => ?_)
  have hP : va_P D classes [(h0, .inr (4, [.int 0, .int 0, .int 0, .int 0, .int 0, .int 0, .int 0, .ref q7, .ref q15, .ref q23, .ref q31, .ref q39, .ref q48, .ref q57, .ref q66, .ref q74, .ref q82, .null, .null, .null, .null, .null])), (q7, .inl (k7, 60, .inl fun _ => 0)), (q15, .inl (k15, 60, .inl fun _ => 0)), (q23, .inl (k23, 60, .inl fun _ => 0)), (q31, .inl (k31, 60, .inl fun _ => 0)), (q39, .inl (k39, 60, .inl fun _ => 0)), (q48, .inl (k48, 200, .inl fun _ => 0)), (q57, .inl (k57, 200, .inl fun _ => 0)), (q66, .inl (k66, 200, .inl fun _ => 0)), (q74, .inl (k74, 60, .inl fun _ => 0)), (q82, .inl (k82, 60, .inl fun _ => 0)), (q90, .inl (k90, 60, .inl fun _ => 0))] H := hP
  have hD : va_D A [(h0, .inr (4, [.int 0, .int 0, .int 0, .int 0, .int 0, .int 0, .int 0, .ref q7, .ref q15, .ref q23, .ref q31, .ref q39, .ref q48, .ref q57, .ref q66, .ref q74, .ref q82, .null, .null, .null, .null, .null])), (q7, .inl (k7, 60, .inl fun _ => 0)), (q15, .inl (k15, 60, .inl fun _ => 0)), (q23, .inl (k23, 60, .inl fun _ => 0)), (q31, .inl (k31, 60, .inl fun _ => 0)), (q39, .inl (k39, 60, .inl fun _ => 0)), (q48, .inl (k48, 200, .inl fun _ => 0)), (q57, .inl (k57, 200, .inl fun _ => 0)), (q66, .inl (k66, 200, .inl fun _ => 0)), (q74, .inl (k74, 60, .inl fun _ => 0)), (q82, .inl (k82, 60, .inl fun _ => 0)), (q90, .inl (k90, 60, .inl fun _ => 0))] := hD
  have hK : va_K D classes [(k7, .int), (k15, .int), (k23, .int), (k31, .int), (k39, .int), (k48, .int), (k57, .int), (k66, .int), (k74, .int), (k82, .int), (k90, .int)] s := hK
  refine va_putF (D := D) (ci := 4) (v := .ref q90) (ty := .array .int) (C := R_K) (T := F_K) (N := 22) hx hb htb iw_K t_K t_K_ok n_K hown hK hP hD hS 0 rfl rfl 17 (by decide) (htb _ mw_613) (fun _ h9 => h9) rfl hin rfl (by decide +kernel) rfl rfl (Nat.le_of_ble_eq_true rfl) d_K_init_92 (fun H locs hP hD hS => ?_)
  have hP : va_P D classes [(h0, .inr (4, [.int 0, .int 0, .int 0, .int 0, .int 0, .int 0, .int 0, .ref q7, .ref q15, .ref q23, .ref q31, .ref q39, .ref q48, .ref q57, .ref q66, .ref q74, .ref q82, .ref q90, .null, .null, .null, .null])), (q7, .inl (k7, 60, .inl fun _ => 0)), (q15, .inl (k15, 60, .inl fun _ => 0)), (q23, .inl (k23, 60, .inl fun _ => 0)), (q31, .inl (k31, 60, .inl fun _ => 0)), (q39, .inl (k39, 60, .inl fun _ => 0)), (q48, .inl (k48, 200, .inl fun _ => 0)), (q57, .inl (k57, 200, .inl fun _ => 0)), (q66, .inl (k66, 200, .inl fun _ => 0)), (q74, .inl (k74, 60, .inl fun _ => 0)), (q82, .inl (k82, 60, .inl fun _ => 0)), (q90, .inl (k90, 60, .inl fun _ => 0))] H := hP
  have hD : va_D A [(h0, .inr (4, [.int 0, .int 0, .int 0, .int 0, .int 0, .int 0, .int 0, .ref q7, .ref q15, .ref q23, .ref q31, .ref q39, .ref q48, .ref q57, .ref q66, .ref q74, .ref q82, .ref q90, .null, .null, .null, .null])), (q7, .inl (k7, 60, .inl fun _ => 0)), (q15, .inl (k15, 60, .inl fun _ => 0)), (q23, .inl (k23, 60, .inl fun _ => 0)), (q31, .inl (k31, 60, .inl fun _ => 0)), (q39, .inl (k39, 60, .inl fun _ => 0)), (q48, .inl (k48, 200, .inl fun _ => 0)), (q57, .inl (k57, 200, .inl fun _ => 0)), (q66, .inl (k66, 200, .inl fun _ => 0)), (q74, .inl (k74, 60, .inl fun _ => 0)), (q82, .inl (k82, 60, .inl fun _ => 0)), (q90, .inl (k90, 60, .inl fun _ => 0))] := hD
  refine lv_aload_n hx hb d_K_init_95 rfl (lv_at hl 0 rfl) ?_
  refine lv_bipush (v := 60) hx hb d_K_init_96 (by decide) ?_
  refine va_newa (atype := .int) (ty := .int) (a0 := (60, .inl fun _ => 0)) (N' := 60) hx hb (htb _ mw_88) rfl hK hP hD hS hA (fun _ => rfl) (by decide) (by decide) (by decide) (Nat.le_of_ble_eq_true rfl) (Nat.le_of_ble_eq_true rfl) d_K_init_98 (fun q98 k98 H hK hP hD hS => ?_)
  have hP : va_P D classes [(h0, .inr (4, [.int 0, .int 0, .int 0, .int 0, .int 0, .int 0, .int 0, .ref q7, .ref q15, .ref q23, .ref q31, .ref q39, .ref q48, .ref q57, .ref q66, .ref q74, .ref q82, .ref q90, .null, .null, .null, .null])), (q7, .inl (k7, 60, .inl fun _ => 0)), (q15, .inl (k15, 60, .inl fun _ => 0)), (q23, .inl (k23, 60, .inl fun _ => 0)), (q31, .inl (k31, 60, .inl fun _ => 0)), (q39, .inl (k39, 60, .inl fun _ => 0)), (q48, .inl (k48, 200, .inl fun _ => 0)), (q57, .inl (k57, 200, .inl fun _ => 0)), (q66, .inl (k66, 200, .inl fun _ => 0)), (q74, .inl (k74, 60, .inl fun _ => 0)), (q82, .inl (k82, 60, .inl fun _ => 0)), (q90, .inl (k90, 60, .inl fun _ => 0)), (q98, .inl (k98, 60, .inl fun _ => 0))] H := hP
  have hD : va_D A [(h0, .inr (4, [.int 0, .int 0, .int 0, .int 0, .int 0, .int 0, .int 0, .ref q7, .ref q15, .ref q23, .ref q31, .ref q39, .ref q48, .ref q57, .ref q66, .ref q74, .ref q82, .ref q90, .null, .null, .null, .null])), (q7, .inl (k7, 60, .inl fun _ => 0)), (q15, .inl (k15, 60, .inl fun _ => 0)), (q23, .inl (k23, 60, .inl fun _ => 0)), (q31, .inl (k31, 60, .inl fun _ => 0)), (q39, .inl (k39, 60, .inl fun _ => 0)), (q48, .inl (k48, 200, .inl fun _ => 0)), (q57, .inl (k57, 200, .inl fun _ => 0)), (q66, .inl (k66, 200, .inl fun _ => 0)), (q74, .inl (k74, 60, .inl fun _ => 0)), (q82, .inl (k82, 60, .inl fun _ => 0)), (q90, .inl (k90, 60, .inl fun _ => 0)), (q98, .inl (k98, 60, .inl fun _ => 0))] := hD
  have hK : va_K D classes [(k7, .int), (k15, .int), (k23, .int), (k31, .int), (k39, .int), (k48, .int), (k57, .int), (k66, .int), (k74, .int), (k82, .int), (k90, .int), (k98, .int)] s := hK
  refine va_putF (D := D) (ci := 4) (v := .ref q98) (ty := .array .int) (C := R_K) (T := F_K) (N := 22) hx hb htb iw_K t_K t_K_ok n_K hown hK hP hD hS 0 rfl rfl 18 (by decide) (htb _ mw_614) (fun _ h9 => h9) rfl hin rfl (by decide +kernel) rfl rfl (Nat.le_of_ble_eq_true rfl) d_K_init_100 (fun H locs hP hD hS => ?_)
  have hP : va_P D classes [(h0, .inr (4, [.int 0, .int 0, .int 0, .int 0, .int 0, .int 0, .int 0, .ref q7, .ref q15, .ref q23, .ref q31, .ref q39, .ref q48, .ref q57, .ref q66, .ref q74, .ref q82, .ref q90, .ref q98, .null, .null, .null])), (q7, .inl (k7, 60, .inl fun _ => 0)), (q15, .inl (k15, 60, .inl fun _ => 0)), (q23, .inl (k23, 60, .inl fun _ => 0)), (q31, .inl (k31, 60, .inl fun _ => 0)), (q39, .inl (k39, 60, .inl fun _ => 0)), (q48, .inl (k48, 200, .inl fun _ => 0)), (q57, .inl (k57, 200, .inl fun _ => 0)), (q66, .inl (k66, 200, .inl fun _ => 0)), (q74, .inl (k74, 60, .inl fun _ => 0)), (q82, .inl (k82, 60, .inl fun _ => 0)), (q90, .inl (k90, 60, .inl fun _ => 0)), (q98, .inl (k98, 60, .inl fun _ => 0))] H := hP
  have hD : va_D A [(h0, .inr (4, [.int 0, .int 0, .int 0, .int 0, .int 0, .int 0, .int 0, .ref q7, .ref q15, .ref q23, .ref q31, .ref q39, .ref q48, .ref q57, .ref q66, .ref q74, .ref q82, .ref q90, .ref q98, .null, .null, .null])), (q7, .inl (k7, 60, .inl fun _ => 0)), (q15, .inl (k15, 60, .inl fun _ => 0)), (q23, .inl (k23, 60, .inl fun _ => 0)), (q31, .inl (k31, 60, .inl fun _ => 0)), (q39, .inl (k39, 60, .inl fun _ => 0)), (q48, .inl (k48, 200, .inl fun _ => 0)), (q57, .inl (k57, 200, .inl fun _ => 0)), (q66, .inl (k66, 200, .inl fun _ => 0)), (q74, .inl (k74, 60, .inl fun _ => 0)), (q82, .inl (k82, 60, .inl fun _ => 0)), (q90, .inl (k90, 60, .inl fun _ => 0)), (q98, .inl (k98, 60, .inl fun _ => 0))] := hD
  refine lv_aload_n hx hb d_K_init_103 rfl (lv_at hl 0 rfl) ?_
  refine lv_bipush (v := 60) hx hb d_K_init_104 (by decide) ?_
  refine va_newa (atype := .int) (ty := .int) (a0 := (60, .inl fun _ => 0)) (N' := 60) hx hb (htb _ mw_88) rfl hK hP hD hS hA (fun _ => rfl) (by decide) (by decide) (by decide) (Nat.le_of_ble_eq_true rfl) (Nat.le_of_ble_eq_true rfl) d_K_init_106 (fun q106 k106 H hK hP hD hS => ?_)
  have hP : va_P D classes [(h0, .inr (4, [.int 0, .int 0, .int 0, .int 0, .int 0, .int 0, .int 0, .ref q7, .ref q15, .ref q23, .ref q31, .ref q39, .ref q48, .ref q57, .ref q66, .ref q74, .ref q82, .ref q90, .ref q98, .null, .null, .null])), (q7, .inl (k7, 60, .inl fun _ => 0)), (q15, .inl (k15, 60, .inl fun _ => 0)), (q23, .inl (k23, 60, .inl fun _ => 0)), (q31, .inl (k31, 60, .inl fun _ => 0)), (q39, .inl (k39, 60, .inl fun _ => 0)), (q48, .inl (k48, 200, .inl fun _ => 0)), (q57, .inl (k57, 200, .inl fun _ => 0)), (q66, .inl (k66, 200, .inl fun _ => 0)), (q74, .inl (k74, 60, .inl fun _ => 0)), (q82, .inl (k82, 60, .inl fun _ => 0)), (q90, .inl (k90, 60, .inl fun _ => 0)), (q98, .inl (k98, 60, .inl fun _ => 0)), (q106, .inl (k106, 60, .inl fun _ => 0))] H := hP
  have hD : va_D A [(h0, .inr (4, [.int 0, .int 0, .int 0, .int 0, .int 0, .int 0, .int 0, .ref q7, .ref q15, .ref q23, .ref q31, .ref q39, .ref q48, .ref q57, .ref q66, .ref q74, .ref q82, .ref q90, .ref q98, .null, .null, .null])), (q7, .inl (k7, 60, .inl fun _ => 0)), (q15, .inl (k15, 60, .inl fun _ => 0)), (q23, .inl (k23, 60, .inl fun _ => 0)), (q31, .inl (k31, 60, .inl fun _ => 0)), (q39, .inl (k39, 60, .inl fun _ => 0)), (q48, .inl (k48, 200, .inl fun _ => 0)), (q57, .inl (k57, 200, .inl fun _ => 0)), (q66, .inl (k66, 200, .inl fun _ => 0)), (q74, .inl (k74, 60, .inl fun _ => 0)), (q82, .inl (k82, 60, .inl fun _ => 0)), (q90, .inl (k90, 60, .inl fun _ => 0)), (q98, .inl (k98, 60, .inl fun _ => 0)), (q106, .inl (k106, 60, .inl fun _ => 0))] := hD
  have hK : va_K D classes [(k7, .int), (k15, .int), (k23, .int), (k31, .int), (k39, .int), (k48, .int), (k57, .int), (k66, .int), (k74, .int), (k82, .int), (k90, .int), (k98, .int), (k106, .int)] s := hK
  refine va_putF (D := D) (ci := 4) (v := .ref q106) (ty := .array .int) (C := R_K) (T := F_K) (N := 22) hx hb htb iw_K t_K t_K_ok n_K hown hK hP hD hS 0 rfl rfl 19 (by decide) (htb _ mw_615) (fun _ h9 => h9) rfl hin rfl (by decide +kernel) rfl rfl (Nat.le_of_ble_eq_true rfl) d_K_init_108 (fun H locs hP hD hS => ?_)
  have hP : va_P D classes [(h0, .inr (4, [.int 0, .int 0, .int 0, .int 0, .int 0, .int 0, .int 0, .ref q7, .ref q15, .ref q23, .ref q31, .ref q39, .ref q48, .ref q57, .ref q66, .ref q74, .ref q82, .ref q90, .ref q98, .ref q106, .null, .null])), (q7, .inl (k7, 60, .inl fun _ => 0)), (q15, .inl (k15, 60, .inl fun _ => 0)), (q23, .inl (k23, 60, .inl fun _ => 0)), (q31, .inl (k31, 60, .inl fun _ => 0)), (q39, .inl (k39, 60, .inl fun _ => 0)), (q48, .inl (k48, 200, .inl fun _ => 0)), (q57, .inl (k57, 200, .inl fun _ => 0)), (q66, .inl (k66, 200, .inl fun _ => 0)), (q74, .inl (k74, 60, .inl fun _ => 0)), (q82, .inl (k82, 60, .inl fun _ => 0)), (q90, .inl (k90, 60, .inl fun _ => 0)), (q98, .inl (k98, 60, .inl fun _ => 0)), (q106, .inl (k106, 60, .inl fun _ => 0))] H := hP
  have hD : va_D A [(h0, .inr (4, [.int 0, .int 0, .int 0, .int 0, .int 0, .int 0, .int 0, .ref q7, .ref q15, .ref q23, .ref q31, .ref q39, .ref q48, .ref q57, .ref q66, .ref q74, .ref q82, .ref q90, .ref q98, .ref q106, .null, .null])), (q7, .inl (k7, 60, .inl fun _ => 0)), (q15, .inl (k15, 60, .inl fun _ => 0)), (q23, .inl (k23, 60, .inl fun _ => 0)), (q31, .inl (k31, 60, .inl fun _ => 0)), (q39, .inl (k39, 60, .inl fun _ => 0)), (q48, .inl (k48, 200, .inl fun _ => 0)), (q57, .inl (k57, 200, .inl fun _ => 0)), (q66, .inl (k66, 200, .inl fun _ => 0)), (q74, .inl (k74, 60, .inl fun _ => 0)), (q82, .inl (k82, 60, .inl fun _ => 0)), (q90, .inl (k90, 60, .inl fun _ => 0)), (q98, .inl (k98, 60, .inl fun _ => 0)), (q106, .inl (k106, 60, .inl fun _ => 0))] := hD
  refine lv_aload_n hx hb d_K_init_111 rfl (lv_at hl 0 rfl) ?_
  refine lv_bipush (v := 60) hx hb d_K_init_112 (by decide) ?_
  refine va_newa (atype := .int) (ty := .int) (a0 := (60, .inl fun _ => 0)) (N' := 60) hx hb (htb _ mw_88) rfl hK hP hD hS hA (fun _ => rfl) (by decide) (by decide) (by decide) (Nat.le_of_ble_eq_true rfl) (Nat.le_of_ble_eq_true rfl) d_K_init_114 (fun q114 k114 H hK hP hD hS => ?_)
  have hP : va_P D classes [(h0, .inr (4, [.int 0, .int 0, .int 0, .int 0, .int 0, .int 0, .int 0, .ref q7, .ref q15, .ref q23, .ref q31, .ref q39, .ref q48, .ref q57, .ref q66, .ref q74, .ref q82, .ref q90, .ref q98, .ref q106, .null, .null])), (q7, .inl (k7, 60, .inl fun _ => 0)), (q15, .inl (k15, 60, .inl fun _ => 0)), (q23, .inl (k23, 60, .inl fun _ => 0)), (q31, .inl (k31, 60, .inl fun _ => 0)), (q39, .inl (k39, 60, .inl fun _ => 0)), (q48, .inl (k48, 200, .inl fun _ => 0)), (q57, .inl (k57, 200, .inl fun _ => 0)), (q66, .inl (k66, 200, .inl fun _ => 0)), (q74, .inl (k74, 60, .inl fun _ => 0)), (q82, .inl (k82, 60, .inl fun _ => 0)), (q90, .inl (k90, 60, .inl fun _ => 0)), (q98, .inl (k98, 60, .inl fun _ => 0)), (q106, .inl (k106, 60, .inl fun _ => 0)), (q114, .inl (k114, 60, .inl fun _ => 0))] H := hP
  have hD : va_D A [(h0, .inr (4, [.int 0, .int 0, .int 0, .int 0, .int 0, .int 0, .int 0, .ref q7, .ref q15, .ref q23, .ref q31, .ref q39, .ref q48, .ref q57, .ref q66, .ref q74, .ref q82, .ref q90, .ref q98, .ref q106, .null, .null])), (q7, .inl (k7, 60, .inl fun _ => 0)), (q15, .inl (k15, 60, .inl fun _ => 0)), (q23, .inl (k23, 60, .inl fun _ => 0)), (q31, .inl (k31, 60, .inl fun _ => 0)), (q39, .inl (k39, 60, .inl fun _ => 0)), (q48, .inl (k48, 200, .inl fun _ => 0)), (q57, .inl (k57, 200, .inl fun _ => 0)), (q66, .inl (k66, 200, .inl fun _ => 0)), (q74, .inl (k74, 60, .inl fun _ => 0)), (q82, .inl (k82, 60, .inl fun _ => 0)), (q90, .inl (k90, 60, .inl fun _ => 0)), (q98, .inl (k98, 60, .inl fun _ => 0)), (q106, .inl (k106, 60, .inl fun _ => 0)), (q114, .inl (k114, 60, .inl fun _ => 0))] := hD
  have hK : va_K D classes [(k7, .int), (k15, .int), (k23, .int), (k31, .int), (k39, .int), (k48, .int), (k57, .int), (k66, .int), (k74, .int), (k82, .int), (k90, .int), (k98, .int), (k106, .int), (k114, .int)] s := hK
  refine va_putF (D := D) (ci := 4) (v := .ref q114) (ty := .array .int) (C := R_K) (T := F_K) (N := 22) hx hb htb iw_K t_K t_K_ok n_K hown hK hP hD hS 0 rfl rfl 20 (by decide) (htb _ mw_616) (fun _ h9 => h9) rfl hin rfl (by decide +kernel) rfl rfl (Nat.le_of_ble_eq_true rfl) d_K_init_116 (fun H locs hP hD hS => ?_)
  have hP : va_P D classes [(h0, .inr (4, [.int 0, .int 0, .int 0, .int 0, .int 0, .int 0, .int 0, .ref q7, .ref q15, .ref q23, .ref q31, .ref q39, .ref q48, .ref q57, .ref q66, .ref q74, .ref q82, .ref q90, .ref q98, .ref q106, .ref q114, .null])), (q7, .inl (k7, 60, .inl fun _ => 0)), (q15, .inl (k15, 60, .inl fun _ => 0)), (q23, .inl (k23, 60, .inl fun _ => 0)), (q31, .inl (k31, 60, .inl fun _ => 0)), (q39, .inl (k39, 60, .inl fun _ => 0)), (q48, .inl (k48, 200, .inl fun _ => 0)), (q57, .inl (k57, 200, .inl fun _ => 0)), (q66, .inl (k66, 200, .inl fun _ => 0)), (q74, .inl (k74, 60, .inl fun _ => 0)), (q82, .inl (k82, 60, .inl fun _ => 0)), (q90, .inl (k90, 60, .inl fun _ => 0)), (q98, .inl (k98, 60, .inl fun _ => 0)), (q106, .inl (k106, 60, .inl fun _ => 0)), (q114, .inl (k114, 60, .inl fun _ => 0))] H := hP
  have hD : va_D A [(h0, .inr (4, [.int 0, .int 0, .int 0, .int 0, .int 0, .int 0, .int 0, .ref q7, .ref q15, .ref q23, .ref q31, .ref q39, .ref q48, .ref q57, .ref q66, .ref q74, .ref q82, .ref q90, .ref q98, .ref q106, .ref q114, .null])), (q7, .inl (k7, 60, .inl fun _ => 0)), (q15, .inl (k15, 60, .inl fun _ => 0)), (q23, .inl (k23, 60, .inl fun _ => 0)), (q31, .inl (k31, 60, .inl fun _ => 0)), (q39, .inl (k39, 60, .inl fun _ => 0)), (q48, .inl (k48, 200, .inl fun _ => 0)), (q57, .inl (k57, 200, .inl fun _ => 0)), (q66, .inl (k66, 200, .inl fun _ => 0)), (q74, .inl (k74, 60, .inl fun _ => 0)), (q82, .inl (k82, 60, .inl fun _ => 0)), (q90, .inl (k90, 60, .inl fun _ => 0)), (q98, .inl (k98, 60, .inl fun _ => 0)), (q106, .inl (k106, 60, .inl fun _ => 0)), (q114, .inl (k114, 60, .inl fun _ => 0))] := hD
  refine lv_aload_n hx hb d_K_init_119 rfl (lv_at hl 0 rfl) ?_
  refine lv_sipush (v := 3600) hx hb d_K_init_120 (by decide) ?_
  refine va_newa (atype := .boolean) (ty := .boolean) (a0 := (3600, .inl fun _ => 0)) (N' := 3600) hx hb (htb _ mw_663) rfl hK hP hD hS hA (fun _ => rfl) (by decide) (by decide) (by decide) (Nat.le_of_ble_eq_true rfl) (Nat.le_of_ble_eq_true rfl) d_K_init_123 (fun q123 k123 H hK hP hD hS => ?_)
  have hP : va_P D classes [(h0, .inr (4, [.int 0, .int 0, .int 0, .int 0, .int 0, .int 0, .int 0, .ref q7, .ref q15, .ref q23, .ref q31, .ref q39, .ref q48, .ref q57, .ref q66, .ref q74, .ref q82, .ref q90, .ref q98, .ref q106, .ref q114, .null])), (q7, .inl (k7, 60, .inl fun _ => 0)), (q15, .inl (k15, 60, .inl fun _ => 0)), (q23, .inl (k23, 60, .inl fun _ => 0)), (q31, .inl (k31, 60, .inl fun _ => 0)), (q39, .inl (k39, 60, .inl fun _ => 0)), (q48, .inl (k48, 200, .inl fun _ => 0)), (q57, .inl (k57, 200, .inl fun _ => 0)), (q66, .inl (k66, 200, .inl fun _ => 0)), (q74, .inl (k74, 60, .inl fun _ => 0)), (q82, .inl (k82, 60, .inl fun _ => 0)), (q90, .inl (k90, 60, .inl fun _ => 0)), (q98, .inl (k98, 60, .inl fun _ => 0)), (q106, .inl (k106, 60, .inl fun _ => 0)), (q114, .inl (k114, 60, .inl fun _ => 0)), (q123, .inl (k123, 3600, .inl fun _ => 0))] H := hP
  have hD : va_D A [(h0, .inr (4, [.int 0, .int 0, .int 0, .int 0, .int 0, .int 0, .int 0, .ref q7, .ref q15, .ref q23, .ref q31, .ref q39, .ref q48, .ref q57, .ref q66, .ref q74, .ref q82, .ref q90, .ref q98, .ref q106, .ref q114, .null])), (q7, .inl (k7, 60, .inl fun _ => 0)), (q15, .inl (k15, 60, .inl fun _ => 0)), (q23, .inl (k23, 60, .inl fun _ => 0)), (q31, .inl (k31, 60, .inl fun _ => 0)), (q39, .inl (k39, 60, .inl fun _ => 0)), (q48, .inl (k48, 200, .inl fun _ => 0)), (q57, .inl (k57, 200, .inl fun _ => 0)), (q66, .inl (k66, 200, .inl fun _ => 0)), (q74, .inl (k74, 60, .inl fun _ => 0)), (q82, .inl (k82, 60, .inl fun _ => 0)), (q90, .inl (k90, 60, .inl fun _ => 0)), (q98, .inl (k98, 60, .inl fun _ => 0)), (q106, .inl (k106, 60, .inl fun _ => 0)), (q114, .inl (k114, 60, .inl fun _ => 0)), (q123, .inl (k123, 3600, .inl fun _ => 0))] := hD
  have hK : va_K D classes [(k7, .int), (k15, .int), (k23, .int), (k31, .int), (k39, .int), (k48, .int), (k57, .int), (k66, .int), (k74, .int), (k82, .int), (k90, .int), (k98, .int), (k106, .int), (k114, .int), (k123, .boolean)] s := hK
  refine va_putF (D := D) (ci := 4) (v := .ref q123) (ty := .array .boolean) (C := R_K) (T := F_K) (N := 22) hx hb htb iw_K t_K t_K_ok n_K hown hK hP hD hS 0 rfl rfl 21 (by decide) (htb _ mw_617) (fun _ h9 => h9) rfl hin rfl (by decide +kernel) rfl rfl (Nat.le_of_ble_eq_true rfl) d_K_init_125 (fun H locs hP hD hS => ?_)
  have hP : va_P D classes [(h0, .inr (4, [.int 0, .int 0, .int 0, .int 0, .int 0, .int 0, .int 0, .ref q7, .ref q15, .ref q23, .ref q31, .ref q39, .ref q48, .ref q57, .ref q66, .ref q74, .ref q82, .ref q90, .ref q98, .ref q106, .ref q114, .ref q123])), (q7, .inl (k7, 60, .inl fun _ => 0)), (q15, .inl (k15, 60, .inl fun _ => 0)), (q23, .inl (k23, 60, .inl fun _ => 0)), (q31, .inl (k31, 60, .inl fun _ => 0)), (q39, .inl (k39, 60, .inl fun _ => 0)), (q48, .inl (k48, 200, .inl fun _ => 0)), (q57, .inl (k57, 200, .inl fun _ => 0)), (q66, .inl (k66, 200, .inl fun _ => 0)), (q74, .inl (k74, 60, .inl fun _ => 0)), (q82, .inl (k82, 60, .inl fun _ => 0)), (q90, .inl (k90, 60, .inl fun _ => 0)), (q98, .inl (k98, 60, .inl fun _ => 0)), (q106, .inl (k106, 60, .inl fun _ => 0)), (q114, .inl (k114, 60, .inl fun _ => 0)), (q123, .inl (k123, 3600, .inl fun _ => 0))] H := hP
  have hD : va_D A [(h0, .inr (4, [.int 0, .int 0, .int 0, .int 0, .int 0, .int 0, .int 0, .ref q7, .ref q15, .ref q23, .ref q31, .ref q39, .ref q48, .ref q57, .ref q66, .ref q74, .ref q82, .ref q90, .ref q98, .ref q106, .ref q114, .ref q123])), (q7, .inl (k7, 60, .inl fun _ => 0)), (q15, .inl (k15, 60, .inl fun _ => 0)), (q23, .inl (k23, 60, .inl fun _ => 0)), (q31, .inl (k31, 60, .inl fun _ => 0)), (q39, .inl (k39, 60, .inl fun _ => 0)), (q48, .inl (k48, 200, .inl fun _ => 0)), (q57, .inl (k57, 200, .inl fun _ => 0)), (q66, .inl (k66, 200, .inl fun _ => 0)), (q74, .inl (k74, 60, .inl fun _ => 0)), (q82, .inl (k82, 60, .inl fun _ => 0)), (q90, .inl (k90, 60, .inl fun _ => 0)), (q98, .inl (k98, 60, .inl fun _ => 0)), (q106, .inl (k106, 60, .inl fun _ => 0)), (q114, .inl (k114, 60, .inl fun _ => 0)), (q123, .inl (k123, 3600, .inl fun _ => 0))] := hD
  exact hret ((fun j => [q7, q15, q23, q31, q39, q48, q57, q66, q74, q82, q90, q98, q106, q114, q123].getD (j - 1) 0), (fun j => [k7, k15, k23, k31, k39, k48, k57, k66, k74, k82, k90, k98, k106, k114, k123].getD (j - 1) k7)) _ _ _ _ _ _ hP hK hD hS (Nat.le_of_ble_eq_true rfl) (Nat.le_of_ble_eq_true rfl) d_K_init_128
