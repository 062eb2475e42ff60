set_option maxHeartbeats 4000000 in
set_option maxRecDepth 100000 in
theorem c_B_has (l : Launch) (D : va_G) (ad : Nat → Nat) (kd : Nat → ClassId) (g : Nat → Nat → Int32) (z : Nat → Int64) (v : Nat → Int32) (nb : Nat) (hnb : v 2 = nI nb) (hb6 : nb ≤ 60) (x : Int32) : RD l y_B_has (.code y_B_has b_B_has 2 (some .boolean) :: TB) ({ frames := 0, cells := 0, slots := 0, locals := 0 } : Room) [.ref (ad 1), .int x] D classes (wA ad kd g z v) (tA kd) (bI (inN nb x)) := by
  refine rd_of (by decide +kernel) (bI_nar _) (Nat.le_of_ble_eq_true rfl) ?_
  intro p e s m args below meth c Q ls hx hb hml htb hown hP hK hl hret
  have hl : lv_has ls 2 [(0, .ref (ad 1)), (1, .int x)] := hl
  refine lv_iload_n hx hb d_B_has_0 rfl (lv_at hl 1 rfl) ?_
  refine lv_if_lt (tgt := 16) hx hb d_B_has_1 (by decide) (fun c1 => ?_) (fun c1 => ?_)
  · refine lv_iconst (v := 0) hx hb d_B_has_16 (by decide) ?_
    exact hret _ _ _ (by simp [inN, bI, c1]) d_B_has_17
  · refine lv_iload_n hx hb d_B_has_4 rfl (lv_at hl 1 rfl) ?_
    refine lv_aload_n hx hb d_B_has_5 rfl (lv_at hl 0 rfl) ?_
    refine va_get (D := D) (ci := 1) (v := .int (nI nb)) (C := R_B) (T := F_B) (N := 8) hx hb htb iw_B hown hK hP 1 rfl rfl 0 (by decide) (htb _ mw_55) (fun _ h9 => h9) (congrArg (fun x => some (Value.int x)) hnb) d_B_has_6 ?_
    refine lv_icmp_ge (tgt := 16) hx hb d_B_has_9 (by decide) (fun c2 => ?_) (fun c2 => ?_)
    · refine lv_iconst (v := 0) hx hb d_B_has_16 (by decide) ?_
      exact hret _ _ _ (by simp [inN, bI, c1, c2]) d_B_has_17
    · refine lv_iconst (v := 1) hx hb d_B_has_12 (by decide) ?_
      refine lv_goto (tgt := 17) hx hb d_B_has_13 (by decide) ?_
      exact hret _ _ _ (by simp [inN, bI, c1, c2]) d_B_has_17
set_option maxHeartbeats 4000000 in
set_option maxRecDepth 100000 in
theorem c_B_isFull (l : Launch) (D : va_G) (ad : Nat → Nat) (kd : Nat → ClassId) (g : Nat → Nat → Int32) (z : Nat → Int64) (v : Nat → Int32) (nb : Nat) (hnb : v 2 = nI nb) (hb6 : nb ≤ 60) : RD l y_B_isFull (.code y_B_isFull b_B_isFull 1 (some .boolean) :: TB) ({ frames := 0, cells := 0, slots := 0, locals := 0 } : Room) [.ref (ad 1)] D classes (wA ad kd g z v) (tA kd) (bI (decide (60 ≤ nb))) := by
  refine rd_of (by decide +kernel) (bI_nar _) (Nat.le_of_ble_eq_true rfl) ?_
  intro p e s m args below meth c Q ls hx hb hml htb hown hP hK hl hret
  have hl : lv_has ls 1 [(0, .ref (ad 1))] := hl
  refine lv_aload_n hx hb d_B_isFull_0 rfl (lv_at hl 0 rfl) ?_
  refine va_get (D := D) (ci := 1) (v := .int (nI nb)) (C := R_B) (T := F_B) (N := 8) hx hb htb iw_B hown hK hP 1 rfl rfl 0 (by decide) (htb _ mw_55) (fun _ h9 => h9) (congrArg (fun x => some (Value.int x)) hnb) d_B_isFull_1 ?_
  refine lv_bipush (v := 60) hx hb d_B_isFull_4 (by decide) ?_
  refine q_icmp_lt (a := nb) (b := 60) (tgt := 13) hx hb (by omega) (by omega) d_B_isFull_6 (by decide) (fun c1 => ?_) (fun c1 => ?_)
  · refine lv_iconst (v := 0) hx hb d_B_isFull_13 (by decide) ?_
    exact hret _ _ _ (by simp [bI, c1]) d_B_isFull_14
  · refine lv_iconst (v := 1) hx hb d_B_isFull_9 (by decide) ?_
    refine lv_goto (tgt := 14) hx hb d_B_isFull_10 (by decide) ?_
    exact hret _ _ _ (by simp [bI, c1]) d_B_isFull_14
set_option maxHeartbeats 4000000 in
set_option maxRecDepth 100000 in
theorem c_B_isOrdered (l : Launch) (D : va_G) (ad : Nat → Nat) (kd : Nat → ClassId) (g : Nat → Nat → Int32) (z : Nat → Int64) (v : Nat → Int32) (k : Nat) (hk : k < 60) : RD l y_B_isOrdered (.code y_B_isOrdered b_B_isOrdered 2 (some .boolean) :: TB) ({ frames := 0, cells := 0, slots := 0, locals := 0 } : Room) [.ref (ad 1), .int (nI k)] D classes (wA ad kd g z v) (tA kd) (bI (ordB g k)) := by
  refine rd_of (by decide +kernel) (bI_nar _) (Nat.le_of_ble_eq_true rfl) ?_
  intro p e s m args below meth c Q ls hx hb hml htb hown hP hK hl hret
  have hl : lv_has ls 2 [(0, .ref (ad 1)), (1, .int (nI k))] := hl
  refine lv_aload_n hx hb d_B_isOrdered_0 rfl (lv_at hl 0 rfl) ?_
  refine va_get (D := D) (ci := 1) (v := .ref (ad 8)) (C := R_B) (T := F_B) (N := 8) hx hb htb iw_B hown hK hP 1 rfl rfl 7 (by decide) (htb _ mw_69) (fun _ h9 => h9) rfl d_B_isOrdered_1 ?_
  refine lv_iload_n hx hb d_B_isOrdered_4 rfl (lv_at hl 1 rfl) ?_
  refine q_iald hx hb hK hP 8 6 rfl rfl k (by omega) (by decide) d_B_isOrdered_5 ?_
  refine lv_if_le (tgt := 13) hx hb d_B_isOrdered_6 (by decide) (fun c1 => ?_) (fun c1 => ?_)
  · refine lv_iconst (v := 0) hx hb d_B_isOrdered_13 (by decide) ?_
    exact hret _ _ _ (by simp [ordB, bI, c1]) d_B_isOrdered_14
  · refine lv_iconst (v := 1) hx hb d_B_isOrdered_9 (by decide) ?_
    refine lv_goto (tgt := 14) hx hb d_B_isOrdered_10 (by decide) ?_
    exact hret _ _ _ (by simp [ordB, bI, c1]) d_B_isOrdered_14
set_option maxHeartbeats 4000000 in
set_option maxRecDepth 100000 in
theorem c_B_isTaken (l : Launch) (D : va_G) (ad : Nat → Nat) (kd : Nat → ClassId) (g : Nat → Nat → Int32) (z : Nat → Int64) (v : Nat → Int32) (nb : Nat) (hnb : v 2 = nI nb) (hb6 : nb ≤ 60) (x y : Int32) : RD l y_B_isTaken (.code y_B_isTaken b_B_isTaken 4 (some .boolean) :: TB) ({ frames := 0, cells := 0, slots := 0, locals := 0 } : Room) [.ref (ad 1), .int x, .int y] D classes (wA ad kd g z v) (tA kd) (bI (takB g nb x y)) := by
  refine rd_of (by decide +kernel) (bI_nar _) (Nat.le_of_ble_eq_true rfl) ?_
  intro p e s m args below meth c Q ls hx hb hml htb hown hP hK hl hret
  have hl : lv_has ls 4 [(0, .ref (ad 1)), (1, .int x), (2, .int y)] := hl
  refine lv_iconst (v := 0) hx hb d_B_isTaken_0 (by decide) ?_
  refine lv_istore_n (lv' := [(3, .int 0), (0, .ref (ad 1)), (1, .int x), (2, .int y)]) hx hb d_B_isTaken_1 rfl hl (by decide) rfl (fun ls hl => ?_)
  have lp2 : ∀ (n : Nat) (i : Nat), i ≤ nb → nb + 1 ≤ i + n → anyN (fun k => decide (g 2 k = x) && decide (g 3 k = y)) i = false → ∀ (ls : Array Slot), lv_has ls 4 [(0, .ref (ad 1)), (1, .int x), (2, .int y), (3, .int (nI i))] → W p l e ({ frames := 0, cells := 0, slots := 0, locals := 0 } : Room) s m args below meth c s.heap [] 0 0 Q (F0 m 2 ls []) := by
    intro n
    induction n with
    | zero => intro i hi hm hf ls hl; exact absurd hm (by omega)
    | succ n ih =>
      intro i hi hm hf ls hl
      refine lv_iload_n hx hb d_B_isTaken_2 rfl (lv_at hl 3 rfl) ?_
      refine lv_aload_n hx hb d_B_isTaken_3 rfl (lv_at hl 0 rfl) ?_
      refine va_get (D := D) (ci := 1) (v := .int (nI nb)) (C := R_B) (T := F_B) (N := 8) hx hb htb iw_B hown hK hP 1 rfl rfl 0 (by decide) (htb _ mw_55) (fun _ h9 => h9) (congrArg (fun x => some (Value.int x)) hnb) d_B_isTaken_4 ?_
      refine q_icmp_ge (a := i) (b := nb) (tgt := 38) hx hb (by omega) (by omega) d_B_isTaken_7 (by decide) (fun c1 => ?_) (fun c1 => ?_)
      · refine lv_iconst (v := 0) hx hb d_B_isTaken_38 (by decide) ?_
        exact hret _ _ _ (by show 0 = bI (anyN (fun k => decide (g 2 k = x) && decide (g 3 k = y)) nb); rw [show nb = i by omega, hf]; rfl) d_B_isTaken_39
      · refine lv_aload_n hx hb d_B_isTaken_10 rfl (lv_at hl 0 rfl) ?_
        refine va_get (D := D) (ci := 1) (v := .ref (ad 2)) (C := R_B) (T := F_B) (N := 8) hx hb htb iw_B hown hK hP 1 rfl rfl 1 (by decide) (htb _ mw_57) (fun _ h9 => h9) rfl d_B_isTaken_11 ?_
        refine lv_iload_n hx hb d_B_isTaken_14 rfl (lv_at hl 3 rfl) ?_
        refine q_iald hx hb hK hP 2 0 rfl rfl i (by omega) (by decide) d_B_isTaken_15 ?_
        refine lv_iload_n hx hb d_B_isTaken_16 rfl (lv_at hl 1 rfl) ?_
        refine lv_icmp_ne (tgt := 32) hx hb d_B_isTaken_17 (by decide) (fun c2 => ?_) (fun c2 => ?_)
        · refine lv_iinc (v := (nI (i + 1))) (lv' := [(3, .int (nI (i + 1))), (0, .ref (ad 1)), (1, .int x), (2, .int y)]) hx hb d_B_isTaken_32 hl (k := 3) rfl (q_inc _) (by decide) rfl (fun ls hl => ?_)
          refine lv_goto (tgt := 2) hx hb d_B_isTaken_35 (by decide) ?_
          exact ih (i + 1) (by omega) (by omega) (by simp [anyN, hf, c1, c2]) _ (lv_sub hl [1, 2, 3, 0] rfl)
        · refine lv_aload_n hx hb d_B_isTaken_20 rfl (lv_at hl 0 rfl) ?_
          refine va_get (D := D) (ci := 1) (v := .ref (ad 3)) (C := R_B) (T := F_B) (N := 8) hx hb htb iw_B hown hK hP 1 rfl rfl 2 (by decide) (htb _ mw_59) (fun _ h9 => h9) rfl d_B_isTaken_21 ?_
          refine lv_iload_n hx hb d_B_isTaken_24 rfl (lv_at hl 3 rfl) ?_
          refine q_iald hx hb hK hP 3 1 rfl rfl i (by omega) (by decide) d_B_isTaken_25 ?_
          refine lv_iload_n hx hb d_B_isTaken_26 rfl (lv_at hl 2 rfl) ?_
          refine lv_icmp_ne (tgt := 32) hx hb d_B_isTaken_27 (by decide) (fun c3 => ?_) (fun c3 => ?_)
          · refine lv_iinc (v := (nI (i + 1))) (lv' := [(3, .int (nI (i + 1))), (0, .ref (ad 1)), (1, .int x), (2, .int y)]) hx hb d_B_isTaken_32 hl (k := 3) rfl (q_inc _) (by decide) rfl (fun ls hl => ?_)
            refine lv_goto (tgt := 2) hx hb d_B_isTaken_35 (by decide) ?_
            exact ih (i + 1) (by omega) (by omega) (by simp [anyN, hf, c1, c2, c3]) _ (lv_sub hl [1, 2, 3, 0] rfl)
          · refine lv_iconst (v := 1) hx hb d_B_isTaken_30 (by decide) ?_
            exact hret _ _ _ (by show 1 = bI (anyN (fun k => decide (g 2 k = x) && decide (g 3 k = y)) nb); rw [anyN_hit (i := i) (by simp [c1, c2, c3]) (by omega)]; rfl) d_B_isTaken_31
  exact lp2 (nb + 1) 0 (Nat.zero_le _) (by omega) rfl _ (lv_sub hl [1, 2, 3, 0] rfl)
set_option maxHeartbeats 4000000 in
set_option maxRecDepth 100000 in
theorem c_B_mayStandUnder (l : Launch) (D : va_G) (ad : Nat → Nat) (kd : Nat → ClassId) (g : Nat → Nat → Int32) (z : Nat → Int64) (v : Nat → Int32) (nb : Nat) (hnb : v 2 = nI nb) (hb6 : nb ≤ 60) (x o : Int32) : RD l y_B_mayStandUnder (.code y_B_mayStandUnder b_B_mayStandUnder 3 (some .boolean) :: TB) ({ frames := 1, cells := 0, slots := 0, locals := 21 } : Room) [.ref (ad 1), .int x, .int o] D classes (wA ad kd g z v) (tA kd) (bI (msu g nb x o)) := by
  refine rd_of (by decide +kernel) (bI_nar _) (Nat.le_of_ble_eq_true rfl) ?_
  intro p e s m args below meth c Q ls hx hb hml htb hown hP hK hl hret
  have hl : lv_has ls 3 [(0, .ref (ad 1)), (1, .int x), (2, .int o)] := hl
  refine lv_iload_n hx hb d_B_mayStandUnder_0 rfl (lv_at hl 2 rfl) ?_
  refine lv_iconst (v := (-1)) hx hb d_B_mayStandUnder_1 (by decide) ?_
  refine lv_icmp_ne (tgt := 7) hx hb d_B_mayStandUnder_2 (by decide) (fun c1 => ?_) (fun c1 => ?_)
  · refine lv_aload_n hx hb d_B_mayStandUnder_7 rfl (lv_at hl 0 rfl) ?_
    refine lv_iload_n hx hb d_B_mayStandUnder_8 rfl (lv_at hl 2 rfl) ?_
    refine rdV (As := [.int o]) (rest := []) (b := ad 1) ⟨hx, hb, hml, hown, htb⟩ (c_B_has l D ad kd g z v nb hnb hb6 o) (cwV (C := R_B) 1 htb (gV tb_good mw_388 mw_186 mw_187 mw_28 mw_188) rfl rfl rfl (by decide +kernel) ⟨Nat.le_of_ble_eq_true rfl, Nat.le_of_ble_eq_true rfl⟩) hP hK (va_recv hK hP (ci := 1) (q0 := 1) rfl rfl) rfl hl.1 rfl (lv_room (Nat.le_of_ble_eq_true rfl)) d_B_mayStandUnder_9 ⟨Nat.zero_le _, Nat.zero_le _⟩ ?_
    refine lv_if_eq (tgt := 47) hx hb d_B_mayStandUnder_12 (by decide) (fun c2 => ?_) (fun c2 => ?_)
    · replace c2 := bI_f c2
      refine lv_iconst (v := 0) hx hb d_B_mayStandUnder_47 (by decide) ?_
      exact hret _ _ _ (by simp [msu, bI, c1, c2]) d_B_mayStandUnder_48
    · replace c2 := bI_t c2
      obtain ⟨k, hk, rfl⟩ := inN_ix c2 (by omega)
      have ek : ix (nI k) = k := ix_nI (by omega)
      have mk : ¬ nI k = -1 := nI_nm1 (by omega)
      refine lv_aload_n hx hb d_B_mayStandUnder_15 rfl (lv_at hl 0 rfl) ?_
      refine va_get (D := D) (ci := 1) (v := .ref (ad 2)) (C := R_B) (T := F_B) (N := 8) hx hb htb iw_B hown hK hP 1 rfl rfl 1 (by decide) (htb _ mw_57) (fun _ h9 => h9) rfl d_B_mayStandUnder_16 ?_
      refine lv_iload_n hx hb d_B_mayStandUnder_19 rfl (lv_at hl 2 rfl) ?_
      refine q_iald hx hb hK hP 2 0 rfl rfl k (by omega) (by decide) d_B_mayStandUnder_20 ?_
      refine lv_iload_n hx hb d_B_mayStandUnder_21 rfl (lv_at hl 1 rfl) ?_
      refine lv_icmp_ne (tgt := 47) hx hb d_B_mayStandUnder_22 (by decide) (fun c3 => ?_) (fun c3 => ?_)
      · refine lv_iconst (v := 0) hx hb d_B_mayStandUnder_47 (by decide) ?_
        exact hret _ _ _ (by simp [msu, bI, c1, c2, ek, mk, c3]) d_B_mayStandUnder_48
      · refine lv_aload_n hx hb d_B_mayStandUnder_25 rfl (lv_at hl 0 rfl) ?_
        refine va_get (D := D) (ci := 1) (v := .ref (ad 5)) (C := R_B) (T := F_B) (N := 8) hx hb htb iw_B hown hK hP 1 rfl rfl 4 (by decide) (htb _ mw_63) (fun _ h9 => h9) rfl d_B_mayStandUnder_26 ?_
        refine lv_iload_n hx hb d_B_mayStandUnder_29 rfl (lv_at hl 2 rfl) ?_
        refine q_iald hx hb hK hP 5 3 rfl rfl k (by omega) (by decide) d_B_mayStandUnder_30 ?_
        refine lv_iconst (v := 4) hx hb d_B_mayStandUnder_31 (by decide) ?_
        refine lv_icmp_ge (tgt := 47) hx hb d_B_mayStandUnder_32 (by decide) (fun c4 => ?_) (fun c4 => ?_)
        · refine lv_iconst (v := 0) hx hb d_B_mayStandUnder_47 (by decide) ?_
          exact hret _ _ _ (by simp [msu, bI, c1, c2, ek, mk, c3, c4]) d_B_mayStandUnder_48
        · refine lv_aload_n hx hb d_B_mayStandUnder_35 rfl (lv_at hl 0 rfl) ?_
          refine lv_iload_n hx hb d_B_mayStandUnder_36 rfl (lv_at hl 2 rfl) ?_
          refine rdV (As := [.int (nI k)]) (rest := []) (b := ad 1) ⟨hx, hb, hml, hown, htb⟩ (c_B_isOrdered l D ad kd g z v k (by omega)) (cwV (C := R_B) 1 htb (gV tb_good mw_389 mw_390 mw_391 mw_28 mw_392) rfl rfl rfl (by decide +kernel) ⟨Nat.le_of_ble_eq_true rfl, Nat.le_of_ble_eq_true rfl⟩) hP hK (va_recv hK hP (ci := 1) (q0 := 1) rfl rfl) rfl hl.1 rfl (lv_room (Nat.le_of_ble_eq_true rfl)) d_B_mayStandUnder_37 ⟨Nat.zero_le _, Nat.zero_le _⟩ ?_
          refine lv_if_ne (tgt := 47) hx hb d_B_mayStandUnder_40 (by decide) (fun c5 => ?_) (fun c5 => ?_)
          · replace c5 := bI_t c5
            refine lv_iconst (v := 0) hx hb d_B_mayStandUnder_47 (by decide) ?_
            exact hret _ _ _ (by simp [msu, bI, c1, c2, ek, mk, c3, c4, c5]) d_B_mayStandUnder_48
          · replace c5 := bI_f c5
            refine lv_iconst (v := 1) hx hb d_B_mayStandUnder_43 (by decide) ?_
            refine lv_goto (tgt := 48) hx hb d_B_mayStandUnder_44 (by decide) ?_
            exact hret _ _ _ (by simp [msu, bI, c1, c2, ek, mk, c3, c4, c5]) d_B_mayStandUnder_48
  · refine lv_iconst (v := 1) hx hb d_B_mayStandUnder_5 (by decide) ?_
    exact hret _ _ _ (by simp [msu, bI, c1]) d_B_mayStandUnder_6
set_option maxHeartbeats 4000000 in
set_option maxRecDepth 100000 in
theorem c_B_under (l : Launch) (D : va_G) (ad : Nat → Nat) (kd : Nat → ClassId) (g : Nat → Nat → Int32) (z : Nat → Int64) (v : Nat → Int32) (nb : Nat) (hnb : v 2 = nI nb) (hb6 : nb ≤ 60) (x : Int32) : RD l y_B_under (.code y_B_under b_B_under 4 (some .int) :: TB) ({ frames := 0, cells := 0, slots := 0, locals := 0 } : Room) [.ref (ad 1), .int x] D classes (wA ad kd g z v) (tA kd) (nI (undB g nb x)) := by
  refine rd_of (by decide +kernel) (rfl) (Nat.le_of_ble_eq_true rfl) ?_
  intro p e s m args below meth c Q ls hx hb hml htb hown hP hK hl hret
  have hl : lv_has ls 4 [(0, .ref (ad 1)), (1, .int x)] := hl
  refine lv_iconst (v := 0) hx hb d_B_under_0 (by decide) ?_
  refine lv_istore_n (lv' := [(2, .int 0), (0, .ref (ad 1)), (1, .int x)]) hx hb d_B_under_1 rfl hl (by decide) rfl (fun ls hl => ?_)
  refine lv_iconst (v := 0) hx hb d_B_under_2 (by decide) ?_
  refine lv_istore_n (lv' := [(3, .int 0), (2, .int 0), (0, .ref (ad 1)), (1, .int x)]) hx hb d_B_under_3 rfl hl (by decide) rfl (fun ls hl => ?_)
  have lp4 : ∀ (n : Nat) (i : Nat) (f : Nat), i ≤ nb → nb + 1 ≤ i + n → f = cntN (fun k => decide (g 4 k = x)) i → ∀ (ls : Array Slot), lv_has ls 4 [(0, .ref (ad 1)), (1, .int x), (2, .int (nI f)), (3, .int (nI i))] → W p l e ({ frames := 0, cells := 0, slots := 0, locals := 0 } : Room) s m args below meth c s.heap [] 0 0 Q (F0 m 4 ls []) := by
    intro n
    induction n with
    | zero => intro i f hi hm hf ls hl; exact absurd hm (by omega)
    | succ n ih =>
      intro i f hi hm hf ls hl
      refine lv_iload_n hx hb d_B_under_4 rfl (lv_at hl 3 rfl) ?_
      refine lv_aload_n hx hb d_B_under_5 rfl (lv_at hl 0 rfl) ?_
      refine va_get (D := D) (ci := 1) (v := .int (nI nb)) (C := R_B) (T := F_B) (N := 8) hx hb htb iw_B hown hK hP 1 rfl rfl 0 (by decide) (htb _ mw_55) (fun _ h9 => h9) (congrArg (fun x => some (Value.int x)) hnb) d_B_under_6 ?_
      refine q_icmp_ge (a := i) (b := nb) (tgt := 31) hx hb (by omega) (by omega) d_B_under_9 (by decide) (fun c1 => ?_) (fun c1 => ?_)
      · refine lv_iload_n hx hb d_B_under_31 rfl (lv_at hl 2 rfl) ?_
        exact hret _ _ _ (by show nI f = nI (cntN _ nb); rw [show nb = i by omega, hf]) d_B_under_32
      · refine lv_aload_n hx hb d_B_under_12 rfl (lv_at hl 0 rfl) ?_
        refine va_get (D := D) (ci := 1) (v := .ref (ad 4)) (C := R_B) (T := F_B) (N := 8) hx hb htb iw_B hown hK hP 1 rfl rfl 3 (by decide) (htb _ mw_61) (fun _ h9 => h9) rfl d_B_under_13 ?_
        refine lv_iload_n hx hb d_B_under_16 rfl (lv_at hl 3 rfl) ?_
        refine q_iald hx hb hK hP 4 2 rfl rfl i (by omega) (by decide) d_B_under_17 ?_
        refine lv_iload_n hx hb d_B_under_18 rfl (lv_at hl 1 rfl) ?_
        refine lv_icmp_ne (tgt := 25) hx hb d_B_under_19 (by decide) (fun c2 => ?_) (fun c2 => ?_)
        · refine lv_iinc (v := (nI (i + 1))) (lv' := [(3, .int (nI (i + 1))), (0, .ref (ad 1)), (1, .int x), (2, .int (nI f))]) hx hb d_B_under_25 hl (k := 3) rfl (q_inc _) (by decide) rfl (fun ls hl => ?_)
          refine lv_goto (tgt := 4) hx hb d_B_under_28 (by decide) ?_
          exact ih (i + 1) f (by omega) (by omega) (by rw [cntN_f (by simp [c1, c2]), hf]) _ (lv_sub hl [1, 2, 3, 0] rfl)
        · refine lv_iinc (v := (nI (f + 1))) (lv' := [(2, .int (nI (f + 1))), (0, .ref (ad 1)), (1, .int x), (3, .int (nI i))]) hx hb d_B_under_22 hl (k := 2) rfl (q_inc _) (by decide) rfl (fun ls hl => ?_)
          refine lv_iinc (v := (nI (i + 1))) (lv' := [(3, .int (nI (i + 1))), (2, .int (nI (f + 1))), (0, .ref (ad 1)), (1, .int x)]) hx hb d_B_under_25 hl (k := 3) rfl (q_inc _) (by decide) rfl (fun ls hl => ?_)
          refine lv_goto (tgt := 4) hx hb d_B_under_28 (by decide) ?_
          exact ih (i + 1) (f + 1) (by omega) (by omega) (by rw [cntN_t (by simp [c1, c2]), hf]) _ (lv_sub hl [2, 3, 1, 0] rfl)
  exact lp4 (nb + 1) 0 0 (Nat.zero_le _) (by omega) rfl _ (lv_sub hl [2, 3, 1, 0] rfl)
set_option maxHeartbeats 4000000 in
set_option maxRecDepth 100000 in
theorem c_B_add (l : Launch) (D : va_G) (ad : Nat → Nat) (kd : Nat → ClassId) (g : Nat → Nat → Int32) (z : Nat → Int64) (v : Nat → Int32) (nb : Nat) (hnb : v 2 = nI nb) (hb6 : nb ≤ 60) (hlt : nb < 60) (a1 a2 a3 a4 : Int32) : WRi l y_B_add (.code y_B_add b_B_add 6 (some .int) :: TB) ({ frames := 1, cells := 0, slots := 0, locals := 21 } : Room) [.ref (ad 1), .int a1, .int a2, .int a3, .int a4] D classes (wA ad kd g z v) (wA ad kd (addB g nb a1 a2 a3 a4) z (upd v 2 (nI nb + 1))) (tA kd) (nI nb) := by
  refine wr_of (by decide +kernel) (rfl) (Nat.le_of_ble_eq_true rfl) ?_
  intro p e s m args below meth c Q ls A hx hb hml htb hown hP hK hD hS hA hl hret
  have hl : lv_has ls 6 [(0, .ref (ad 1)), (1, .int a1), (2, .int a2), (3, .int a3), (4, .int a4)] := hl
  refine lv_aload_n hx hb d_B_add_0 rfl (lv_at hl 0 rfl) ?_
  refine va_get (D := D) (ci := 1) (v := .int (nI nb)) (C := R_B) (T := F_B) (N := 8) hx hb htb iw_B hown hK hP 1 rfl rfl 0 (by decide) (htb _ mw_55) (fun _ h9 => h9) (congrArg (fun x => some (Value.int x)) hnb) d_B_add_1 ?_
  refine lv_istore (lv' := [(5, .int (nI nb)), (0, .ref (ad 1)), (1, .int a1), (2, .int a2), (3, .int a3), (4, .int a4)]) hx hb d_B_add_4 hl (by decide) rfl (fun ls hl => ?_)
  refine lv_aload_n hx hb d_B_add_6 rfl (lv_at hl 1 rfl) ?_
  refine va_get (D := D) (ci := 1) (v := .ref (ad 2)) (C := R_B) (T := F_B) (N := 8) hx hb htb iw_B hown hK hP 1 rfl rfl 1 (by decide) (htb _ mw_57) (fun _ h9 => h9) rfl d_B_add_7 ?_
  refine lv_iload hx hb d_B_add_10 (lv_at hl 0 rfl) ?_
  refine lv_iload_n hx hb d_B_add_12 rfl (lv_at hl 2 rfl) ?_
  refine q_iast hx hb hK hP hD hS 2 0 rfl rfl nb (x := a1) (by omega) (by decide) d_B_add_13 (fun H locs hP hD hS => ?_)
  have hP : va_P D classes (wA ad kd (up g 2 nb a1) z v) H := hP
  have hD : va_D A (wA ad kd (up g 2 nb a1) z v) := hD
  refine lv_aload_n hx hb d_B_add_14 rfl (lv_at hl 1 rfl) ?_
  refine va_get (D := D) (ci := 1) (v := .ref (ad 3)) (C := R_B) (T := F_B) (N := 8) hx hb htb iw_B hown hK hP 1 rfl rfl 2 (by decide) (htb _ mw_59) (fun _ h9 => h9) rfl d_B_add_15 ?_
  refine lv_iload hx hb d_B_add_18 (lv_at hl 0 rfl) ?_
  refine lv_iload_n hx hb d_B_add_20 rfl (lv_at hl 3 rfl) ?_
  refine q_iast hx hb hK hP hD hS 3 1 rfl rfl nb (x := a2) (by omega) (by decide) d_B_add_21 (fun H locs hP hD hS => ?_)
  have hP : va_P D classes (wA ad kd (up (up g 2 nb a1) 3 nb a2) z v) H := hP
  have hD : va_D A (wA ad kd (up (up g 2 nb a1) 3 nb a2) z v) := hD
  refine lv_aload_n hx hb d_B_add_22 rfl (lv_at hl 1 rfl) ?_
  refine va_get (D := D) (ci := 1) (v := .ref (ad 4)) (C := R_B) (T := F_B) (N := 8) hx hb htb iw_B hown hK hP 1 rfl rfl 3 (by decide) (htb _ mw_61) (fun _ h9 => h9) rfl d_B_add_23 ?_
  refine lv_iload hx hb d_B_add_26 (lv_at hl 0 rfl) ?_
  refine lv_iload_n hx hb d_B_add_28 rfl (lv_at hl 4 rfl) ?_
  refine q_iast hx hb hK hP hD hS 4 2 rfl rfl nb (x := a3) (by omega) (by decide) d_B_add_29 (fun H locs hP hD hS => ?_)
  have hP : va_P D classes (wA ad kd (up (up (up g 2 nb a1) 3 nb a2) 4 nb a3) z v) H := hP
  have hD : va_D A (wA ad kd (up (up (up g 2 nb a1) 3 nb a2) 4 nb a3) z v) := hD
  refine lv_aload_n hx hb d_B_add_30 rfl (lv_at hl 1 rfl) ?_
  refine va_get (D := D) (ci := 1) (v := .ref (ad 5)) (C := R_B) (T := F_B) (N := 8) hx hb htb iw_B hown hK hP 1 rfl rfl 4 (by decide) (htb _ mw_63) (fun _ h9 => h9) rfl d_B_add_31 ?_
  refine lv_iload hx hb d_B_add_34 (lv_at hl 0 rfl) ?_
  refine lv_aload_n hx hb d_B_add_36 rfl (lv_at hl 1 rfl) ?_
  refine lv_iload_n hx hb d_B_add_37 rfl (lv_at hl 4 rfl) ?_
  refine rdV (As := [.int a3]) (rest := [.int (nI nb), .ref (ad 5)]) (b := ad 1) ⟨hx, hb, hml, hown, htb⟩ (c_B_has l D ad kd (up (up (up g 2 nb a1) 3 nb a2) 4 nb a3) z v nb hnb hb6 a3) (cwV (C := R_B) 1 htb (gV tb_good mw_388 mw_186 mw_187 mw_28 mw_188) rfl rfl rfl (by decide +kernel) ⟨Nat.le_of_ble_eq_true rfl, Nat.le_of_ble_eq_true rfl⟩) hP hK (va_recv hK hP (ci := 1) (q0 := 1) rfl rfl) rfl hl.1 rfl (lv_room (Nat.le_of_ble_eq_true rfl)) d_B_add_38 ⟨Nat.zero_le _, Nat.zero_le _⟩ ?_
  refine lv_if_eq (tgt := 55) hx hb d_B_add_41 (by decide) (fun c1 => ?_) (fun c1 => ?_)
  · replace c1 := bI_f c1
    refine lv_iconst (v := 1) hx hb d_B_add_55 (by decide) ?_
    refine q_iast hx hb hK hP hD hS 5 3 rfl rfl nb (x := 1) (by omega) (by decide) d_B_add_56 (fun H locs hP hD hS => ?_)
    have hP : va_P D classes (wA ad kd (up (up (up (up g 2 nb a1) 3 nb a2) 4 nb a3) 5 nb 1) z v) H := hP
    have hD : va_D A (wA ad kd (up (up (up (up g 2 nb a1) 3 nb a2) 4 nb a3) 5 nb 1) z v) := hD
    refine lv_aload_n hx hb d_B_add_57 rfl (lv_at hl 1 rfl) ?_
    refine va_get (D := D) (ci := 1) (v := .ref (ad 6)) (C := R_B) (T := F_B) (N := 8) hx hb htb iw_B hown hK hP 1 rfl rfl 5 (by decide) (htb _ mw_65) (fun _ h9 => h9) rfl d_B_add_58 ?_
    refine lv_iload hx hb d_B_add_61 (lv_at hl 0 rfl) ?_
    refine lv_aload_n hx hb d_B_add_63 rfl (lv_at hl 1 rfl) ?_
    refine lv_iload_n hx hb d_B_add_64 rfl (lv_at hl 4 rfl) ?_
    refine rdV (As := [.int a3]) (rest := [.int (nI nb), .ref (ad 6)]) (b := ad 1) ⟨hx, hb, hml, hown, htb⟩ (c_B_has l D ad kd (up (up (up (up g 2 nb a1) 3 nb a2) 4 nb a3) 5 nb 1) z v nb hnb hb6 a3) (cwV (C := R_B) 1 htb (gV tb_good mw_388 mw_186 mw_187 mw_28 mw_188) rfl rfl rfl (by decide +kernel) ⟨Nat.le_of_ble_eq_true rfl, Nat.le_of_ble_eq_true rfl⟩) hP hK (va_recv hK hP (ci := 1) (q0 := 1) rfl rfl) rfl hl.1 rfl (lv_room (Nat.le_of_ble_eq_true rfl)) d_B_add_65 ⟨Nat.zero_le _, Nat.zero_le _⟩ ?_
    refine lv_if_eq (tgt := 80) hx hb d_B_add_68 (by decide) (fun c2 => ?_) (fun c2 => ?_)
    · replace c2 := bI_f c2
      refine lv_iload hx hb d_B_add_80 (lv_at hl 0 rfl) ?_
      refine q_iast hx hb hK hP hD hS 6 4 rfl rfl nb (x := (nI nb)) (by omega) (by decide) d_B_add_82 (fun H locs hP hD hS => ?_)
      have hP : va_P D classes (wA ad kd (up (up (up (up (up g 2 nb a1) 3 nb a2) 4 nb a3) 5 nb 1) 6 nb (nI nb)) z v) H := hP
      have hD : va_D A (wA ad kd (up (up (up (up (up g 2 nb a1) 3 nb a2) 4 nb a3) 5 nb 1) 6 nb (nI nb)) z v) := hD
      refine lv_aload_n hx hb d_B_add_83 rfl (lv_at hl 1 rfl) ?_
      refine va_get (D := D) (ci := 1) (v := .ref (ad 7)) (C := R_B) (T := F_B) (N := 8) hx hb htb iw_B hown hK hP 1 rfl rfl 6 (by decide) (htb _ mw_67) (fun _ h9 => h9) rfl d_B_add_84 ?_
      refine lv_iload hx hb d_B_add_87 (lv_at hl 0 rfl) ?_
      refine lv_iload hx hb d_B_add_89 (lv_at hl 5 rfl) ?_
      refine q_iast hx hb hK hP hD hS 7 5 rfl rfl nb (x := a4) (by omega) (by decide) d_B_add_91 (fun H locs hP hD hS => ?_)
      have hP : va_P D classes (wA ad kd (up (up (up (up (up (up g 2 nb a1) 3 nb a2) 4 nb a3) 5 nb 1) 6 nb (nI nb)) 7 nb a4) z v) H := hP
      have hD : va_D A (wA ad kd (up (up (up (up (up (up g 2 nb a1) 3 nb a2) 4 nb a3) 5 nb 1) 6 nb (nI nb)) 7 nb a4) z v) := hD
      refine lv_aload_n hx hb d_B_add_92 rfl (lv_at hl 1 rfl) ?_
      refine va_get (D := D) (ci := 1) (v := .ref (ad 8)) (C := R_B) (T := F_B) (N := 8) hx hb htb iw_B hown hK hP 1 rfl rfl 7 (by decide) (htb _ mw_69) (fun _ h9 => h9) rfl d_B_add_93 ?_
      refine lv_iload hx hb d_B_add_96 (lv_at hl 0 rfl) ?_
      refine lv_iconst (v := 0) hx hb d_B_add_98 (by decide) ?_
      refine q_iast hx hb hK hP hD hS 8 6 rfl rfl nb (x := 0) (by omega) (by decide) d_B_add_99 (fun H locs hP hD hS => ?_)
      have hP : va_P D classes (wA ad kd (up (up (up (up (up (up (up g 2 nb a1) 3 nb a2) 4 nb a3) 5 nb 1) 6 nb (nI nb)) 7 nb a4) 8 nb 0) z v) H := hP
      have hD : va_D A (wA ad kd (up (up (up (up (up (up (up g 2 nb a1) 3 nb a2) 4 nb a3) 5 nb 1) 6 nb (nI nb)) 7 nb a4) 8 nb 0) z v) := hD
      refine lv_aload_n hx hb d_B_add_100 rfl (lv_at hl 1 rfl) ?_
      refine lv_dup hx hb d_B_add_101 rfl ?_
      refine va_get (D := D) (ci := 1) (v := .int (nI nb)) (C := R_B) (T := F_B) (N := 8) hx hb htb iw_B hown hK hP 1 rfl rfl 0 (by decide) (htb _ mw_55) (fun _ h9 => h9) (congrArg (fun x => some (Value.int x)) hnb) d_B_add_102 ?_
      refine lv_iconst (v := 1) hx hb d_B_add_105 (by decide) ?_
      refine lv_iadd hx hb d_B_add_106 ?_
      refine va_put (D := D) (ci := 1) (v := .int ((nI nb) + 1)) (ty := .int) (C := R_B) (T := F_B) (N := 8) hx hb htb iw_B t_B t_B_ok n_B hown hK hP hD hS 1 rfl rfl 0 (by decide) (htb _ mw_55) (fun _ h9 => h9) rfl (by decide +kernel) rfl rfl (Nat.le_of_ble_eq_true rfl) d_B_add_107 (fun H locs hP hD hS => ?_)
      have hP : va_P D classes (wA ad kd (up (up (up (up (up (up (up g 2 nb a1) 3 nb a2) 4 nb a3) 5 nb 1) 6 nb (nI nb)) 7 nb a4) 8 nb 0) z (upd v 2 ((nI nb) + 1))) H := hP
      have hD : va_D A (wA ad kd (up (up (up (up (up (up (up g 2 nb a1) 3 nb a2) 4 nb a3) 5 nb 1) 6 nb (nI nb)) 7 nb a4) 8 nb 0) z (upd v 2 ((nI nb) + 1))) := hD
      refine lv_iload hx hb d_B_add_110 (lv_at hl 0 rfl) ?_
      exact hret _ _ _ _ _ rfl (by simp only [addB, c1, if_true, Bool.false_eq_true, if_false]; exact hP) hS d_B_add_112
    · replace c2 := bI_t c2
      rw [c1] at c2; exact absurd c2 (by decide)
  · replace c1 := bI_t c1
    obtain ⟨k, hk, rfl⟩ := inN_ix c1 (by omega)
    have ek : ix (nI k) = k := ix_nI (by omega)
    have mk : ¬ nI k = -1 := nI_nm1 (by omega)
    refine lv_aload_n hx hb d_B_add_44 rfl (lv_at hl 1 rfl) ?_
    refine va_get (D := D) (ci := 1) (v := .ref (ad 5)) (C := R_B) (T := F_B) (N := 8) hx hb htb iw_B hown hK hP 1 rfl rfl 4 (by decide) (htb _ mw_63) (fun _ h9 => h9) rfl d_B_add_45 ?_
    refine lv_iload_n hx hb d_B_add_48 rfl (lv_at hl 4 rfl) ?_
    refine q_iald hx hb hK hP 5 3 rfl rfl k (by omega) (by decide) d_B_add_49 ?_
    refine lv_iconst (v := 1) hx hb d_B_add_50 (by decide) ?_
    refine lv_iadd hx hb d_B_add_51 ?_
    refine lv_goto (tgt := 56) hx hb d_B_add_52 (by decide) ?_
    refine q_iast hx hb hK hP hD hS 5 3 rfl rfl nb (x := ((g 5 k) + 1)) (by omega) (by decide) d_B_add_56 (fun H locs hP hD hS => ?_)
    have hP : va_P D classes (wA ad kd (up (up (up (up g 2 nb a1) 3 nb a2) 4 nb (nI k)) 5 nb ((g 5 k) + 1)) z v) H := hP
    have hD : va_D A (wA ad kd (up (up (up (up g 2 nb a1) 3 nb a2) 4 nb (nI k)) 5 nb ((g 5 k) + 1)) z v) := hD
    refine lv_aload_n hx hb d_B_add_57 rfl (lv_at hl 1 rfl) ?_
    refine va_get (D := D) (ci := 1) (v := .ref (ad 6)) (C := R_B) (T := F_B) (N := 8) hx hb htb iw_B hown hK hP 1 rfl rfl 5 (by decide) (htb _ mw_65) (fun _ h9 => h9) rfl d_B_add_58 ?_
    refine lv_iload hx hb d_B_add_61 (lv_at hl 0 rfl) ?_
    refine lv_aload_n hx hb d_B_add_63 rfl (lv_at hl 1 rfl) ?_
    refine lv_iload_n hx hb d_B_add_64 rfl (lv_at hl 4 rfl) ?_
    refine rdV (As := [.int (nI k)]) (rest := [.int (nI nb), .ref (ad 6)]) (b := ad 1) ⟨hx, hb, hml, hown, htb⟩ (c_B_has l D ad kd (up (up (up (up g 2 nb a1) 3 nb a2) 4 nb (nI k)) 5 nb ((g 5 k) + 1)) z v nb hnb hb6 (nI k)) (cwV (C := R_B) 1 htb (gV tb_good mw_388 mw_186 mw_187 mw_28 mw_188) rfl rfl rfl (by decide +kernel) ⟨Nat.le_of_ble_eq_true rfl, Nat.le_of_ble_eq_true rfl⟩) hP hK (va_recv hK hP (ci := 1) (q0 := 1) rfl rfl) rfl hl.1 rfl (lv_room (Nat.le_of_ble_eq_true rfl)) d_B_add_65 ⟨Nat.zero_le _, Nat.zero_le _⟩ ?_
    refine lv_if_eq (tgt := 80) hx hb d_B_add_68 (by decide) (fun c3 => ?_) (fun c3 => ?_)
    · replace c3 := bI_f c3
      rw [c1] at c3; exact absurd c3 (by decide)
    · replace c3 := bI_t c3
      refine lv_aload_n hx hb d_B_add_71 rfl (lv_at hl 1 rfl) ?_
      refine va_get (D := D) (ci := 1) (v := .ref (ad 6)) (C := R_B) (T := F_B) (N := 8) hx hb htb iw_B hown hK hP 1 rfl rfl 5 (by decide) (htb _ mw_65) (fun _ h9 => h9) rfl d_B_add_72 ?_
      refine lv_iload_n hx hb d_B_add_75 rfl (lv_at hl 4 rfl) ?_
      refine q_iald hx hb hK hP 6 4 rfl rfl k (by omega) (by decide) d_B_add_76 ?_
      refine lv_goto (tgt := 82) hx hb d_B_add_77 (by decide) ?_
      refine q_iast hx hb hK hP hD hS 6 4 rfl rfl nb (x := (g 6 k)) (by omega) (by decide) d_B_add_82 (fun H locs hP hD hS => ?_)
      have hP : va_P D classes (wA ad kd (up (up (up (up (up g 2 nb a1) 3 nb a2) 4 nb (nI k)) 5 nb ((g 5 k) + 1)) 6 nb (g 6 k)) z v) H := hP
      have hD : va_D A (wA ad kd (up (up (up (up (up g 2 nb a1) 3 nb a2) 4 nb (nI k)) 5 nb ((g 5 k) + 1)) 6 nb (g 6 k)) z v) := hD
      refine lv_aload_n hx hb d_B_add_83 rfl (lv_at hl 1 rfl) ?_
      refine va_get (D := D) (ci := 1) (v := .ref (ad 7)) (C := R_B) (T := F_B) (N := 8) hx hb htb iw_B hown hK hP 1 rfl rfl 6 (by decide) (htb _ mw_67) (fun _ h9 => h9) rfl d_B_add_84 ?_
      refine lv_iload hx hb d_B_add_87 (lv_at hl 0 rfl) ?_
      refine lv_iload hx hb d_B_add_89 (lv_at hl 5 rfl) ?_
      refine q_iast hx hb hK hP hD hS 7 5 rfl rfl nb (x := a4) (by omega) (by decide) d_B_add_91 (fun H locs hP hD hS => ?_)
      have hP : va_P D classes (wA ad kd (up (up (up (up (up (up g 2 nb a1) 3 nb a2) 4 nb (nI k)) 5 nb ((g 5 k) + 1)) 6 nb (g 6 k)) 7 nb a4) z v) H := hP
      have hD : va_D A (wA ad kd (up (up (up (up (up (up g 2 nb a1) 3 nb a2) 4 nb (nI k)) 5 nb ((g 5 k) + 1)) 6 nb (g 6 k)) 7 nb a4) z v) := hD
      refine lv_aload_n hx hb d_B_add_92 rfl (lv_at hl 1 rfl) ?_
      refine va_get (D := D) (ci := 1) (v := .ref (ad 8)) (C := R_B) (T := F_B) (N := 8) hx hb htb iw_B hown hK hP 1 rfl rfl 7 (by decide) (htb _ mw_69) (fun _ h9 => h9) rfl d_B_add_93 ?_
      refine lv_iload hx hb d_B_add_96 (lv_at hl 0 rfl) ?_
      refine lv_iconst (v := 0) hx hb d_B_add_98 (by decide) ?_
      refine q_iast hx hb hK hP hD hS 8 6 rfl rfl nb (x := 0) (by omega) (by decide) d_B_add_99 (fun H locs hP hD hS => ?_)
      have hP : va_P D classes (wA ad kd (up (up (up (up (up (up (up g 2 nb a1) 3 nb a2) 4 nb (nI k)) 5 nb ((g 5 k) + 1)) 6 nb (g 6 k)) 7 nb a4) 8 nb 0) z v) H := hP
      have hD : va_D A (wA ad kd (up (up (up (up (up (up (up g 2 nb a1) 3 nb a2) 4 nb (nI k)) 5 nb ((g 5 k) + 1)) 6 nb (g 6 k)) 7 nb a4) 8 nb 0) z v) := hD
      refine lv_aload_n hx hb d_B_add_100 rfl (lv_at hl 1 rfl) ?_
      refine lv_dup hx hb d_B_add_101 rfl ?_
      refine va_get (D := D) (ci := 1) (v := .int (nI nb)) (C := R_B) (T := F_B) (N := 8) hx hb htb iw_B hown hK hP 1 rfl rfl 0 (by decide) (htb _ mw_55) (fun _ h9 => h9) (congrArg (fun x => some (Value.int x)) hnb) d_B_add_102 ?_
      refine lv_iconst (v := 1) hx hb d_B_add_105 (by decide) ?_
      refine lv_iadd hx hb d_B_add_106 ?_
      refine va_put (D := D) (ci := 1) (v := .int ((nI nb) + 1)) (ty := .int) (C := R_B) (T := F_B) (N := 8) hx hb htb iw_B t_B t_B_ok n_B hown hK hP hD hS 1 rfl rfl 0 (by decide) (htb _ mw_55) (fun _ h9 => h9) rfl (by decide +kernel) rfl rfl (Nat.le_of_ble_eq_true rfl) d_B_add_107 (fun H locs hP hD hS => ?_)
      have hP : va_P D classes (wA ad kd (up (up (up (up (up (up (up g 2 nb a1) 3 nb a2) 4 nb (nI k)) 5 nb ((g 5 k) + 1)) 6 nb (g 6 k)) 7 nb a4) 8 nb 0) z (upd v 2 ((nI nb) + 1))) H := hP
      have hD : va_D A (wA ad kd (up (up (up (up (up (up (up g 2 nb a1) 3 nb a2) 4 nb (nI k)) 5 nb ((g 5 k) + 1)) 6 nb (g 6 k)) 7 nb a4) 8 nb 0) z (upd v 2 ((nI nb) + 1))) := hD
      refine lv_iload hx hb d_B_add_110 (lv_at hl 0 rfl) ?_
      exact hret _ _ _ _ _ rfl (by simp only [addB, c1, ek, if_true, Bool.false_eq_true, if_false]; exact hP) hS d_B_add_112
set_option maxHeartbeats 4000000 in
set_option maxRecDepth 100000 in
theorem c_B_nextFreeNumber (l : Launch) (D : va_G) (ad : Nat → Nat) (kd : Nat → ClassId) (g : Nat → Nat → Int32) (z : Nat → Int64) (v : Nat → Int32) (nb : Nat) (hnb : v 2 = nI nb) (hb6 : nb ≤ 60) (k : Nat) (hk : k < 60) : RD l y_B_nextFreeNumber (.code y_B_nextFreeNumber b_B_nextFreeNumber 4 (some .int) :: TB) ({ frames := 1, cells := 0, slots := 0, locals := 23 } : Room) [.ref (ad 1), .int (nI k)] D classes (wA ad kd g z v) (tA kd) (nfnL g nb k 60 1) := by
  refine rd_of (by decide +kernel) (rfl) (Nat.le_of_ble_eq_true rfl) ?_
  intro p e s m args below meth c Q ls hx hb hml htb hown hP hK hl hret
  have hl : lv_has ls 4 [(0, .ref (ad 1)), (1, .int (nI k))] := hl
  refine lv_iconst (v := 1) hx hb d_B_nextFreeNumber_0 (by decide) ?_
  refine lv_istore_n (lv' := [(2, .int 1), (0, .ref (ad 1)), (1, .int (nI k))]) hx hb d_B_nextFreeNumber_1 rfl hl (by decide) rfl (fun ls hl => ?_)
  have lp2 : ∀ (n : Nat) (f j : Nat), f + j = 61 → f + 1 ≤ n → nfnL g nb k f j = nfnL g nb k 60 1 → ∀ (ls : Array Slot), lv_has ls 4 [(0, .ref (ad 1)), (1, .int (nI k)), (2, .int (nI j))] → W p l e ({ frames := 1, cells := 0, slots := 0, locals := 23 } : Room) s m args below meth c s.heap [] 0 0 Q (F0 m 2 ls []) := by
    intro n
    induction n with
    | zero => intro f j hj hm hf ls hl; exact absurd hm (by omega)
    | succ n ih =>
      intro f j hj hm hf ls hl
      refine lv_iload_n hx hb d_B_nextFreeNumber_2 rfl (lv_at hl 2 rfl) ?_
      refine lv_bipush (v := 60) hx hb d_B_nextFreeNumber_3 (by decide) ?_
      refine q_icmp_gt (a := j) (b := 60) (tgt := 47) hx hb (by omega) (by omega) d_B_nextFreeNumber_5 (by decide) (fun c1 => ?_) (fun c1 => ?_)
      · refine lv_iconst (v := (-1)) hx hb d_B_nextFreeNumber_47 (by decide) ?_
        exact hret _ _ _ (by rw [← hf, show f = 0 by omega]; rfl) d_B_nextFreeNumber_48
      · obtain ⟨f, rfl⟩ : ∃ q, f = q + 1 := ⟨f - 1, by omega⟩
        refine lv_aload_n hx hb d_B_nextFreeNumber_8 rfl (lv_at hl 0 rfl) ?_
        refine va_get (D := D) (ci := 1) (v := .ref (ad 3)) (C := R_B) (T := F_B) (N := 8) hx hb htb iw_B hown hK hP 1 rfl rfl 2 (by decide) (htb _ mw_59) (fun _ h9 => h9) rfl d_B_nextFreeNumber_9 ?_
        refine lv_iload_n hx hb d_B_nextFreeNumber_12 rfl (lv_at hl 1 rfl) ?_
        refine q_iald hx hb hK hP 3 1 rfl rfl k (by omega) (by decide) d_B_nextFreeNumber_13 ?_
        refine lv_iload_n hx hb d_B_nextFreeNumber_14 rfl (lv_at hl 2 rfl) ?_
        refine lv_iadd hx hb d_B_nextFreeNumber_15 ?_
        refine lv_istore_n (lv' := [(3, .int ((g 3 k) + (nI j))), (0, .ref (ad 1)), (1, .int (nI k)), (2, .int (nI j))]) hx hb d_B_nextFreeNumber_16 rfl hl (by decide) rfl (fun ls hl => ?_)
        refine lv_iload_n hx hb d_B_nextFreeNumber_17 rfl (lv_at hl 0 rfl) ?_
        refine lv_ldc (v := 99999999) hx hb hown (htb _ mw_495) d_B_nextFreeNumber_18 ?_
        refine lv_icmp_le (tgt := 25) hx hb d_B_nextFreeNumber_20 (by decide) (fun c2 => ?_) (fun c2 => ?_)
        · refine lv_aload_n hx hb d_B_nextFreeNumber_25 rfl (lv_at hl 1 rfl) ?_
          refine lv_aload_n hx hb d_B_nextFreeNumber_26 rfl (lv_at hl 1 rfl) ?_
          refine va_get (D := D) (ci := 1) (v := .ref (ad 2)) (C := R_B) (T := F_B) (N := 8) hx hb htb iw_B hown hK hP 1 rfl rfl 1 (by decide) (htb _ mw_57) (fun _ h9 => h9) rfl d_B_nextFreeNumber_27 ?_
          refine lv_iload_n hx hb d_B_nextFreeNumber_30 rfl (lv_at hl 2 rfl) ?_
          refine q_iald hx hb hK hP 2 0 rfl rfl k (by omega) (by decide) d_B_nextFreeNumber_31 ?_
          refine lv_iload_n hx hb d_B_nextFreeNumber_32 rfl (lv_at hl 0 rfl) ?_
          refine rdV (As := [.int (g 2 k), .int ((g 3 k) + (nI j))]) (rest := []) (b := ad 1) ⟨hx, hb, hml, hown, htb⟩ (c_B_isTaken l D ad kd g z v nb hnb hb6 (g 2 k) ((g 3 k) + (nI j))) (cwV (C := R_B) 2 htb (gV tb_good mw_496 mw_394 mw_395 mw_28 mw_396) rfl rfl rfl (by decide +kernel) ⟨Nat.le_of_ble_eq_true rfl, Nat.le_of_ble_eq_true rfl⟩) hP hK (va_recv hK hP (ci := 1) (q0 := 1) rfl rfl) rfl hl.1 rfl (lv_room (Nat.le_of_ble_eq_true rfl)) d_B_nextFreeNumber_33 ⟨Nat.zero_le _, Nat.zero_le _⟩ ?_
          refine lv_if_ne (tgt := 41) hx hb d_B_nextFreeNumber_36 (by decide) (fun c3 => ?_) (fun c3 => ?_)
          · replace c3 := bI_t c3
            refine lv_iinc (v := (nI (j + 1))) (lv' := [(2, .int (nI (j + 1))), (3, .int ((g 3 k) + (nI j))), (0, .ref (ad 1)), (1, .int (nI k))]) hx hb d_B_nextFreeNumber_41 hl (k := 3) rfl (q_inc _) (by decide) rfl (fun ls hl => ?_)
            refine lv_goto (tgt := 2) hx hb d_B_nextFreeNumber_44 (by decide) ?_
            exact ih f (j + 1) (by omega) (by omega) (by rw [← hf]; show _ = (if g 3 k + nI j ≤ 99999999 then (if takB g nb (g 2 k) (g 3 k + nI j) = true then nfnL g nb k f (j + 1) else g 3 k + nI j) else -1); rw [if_pos c2, if_pos c3]) _ (lv_sub hl [2, 3, 0] rfl)
          · replace c3 := bI_f c3
            refine lv_iload_n hx hb d_B_nextFreeNumber_39 rfl (lv_at hl 0 rfl) ?_
            exact hret _ _ _ (by rw [← hf]; exact ((if_pos c2).trans (if_neg (by rw [c3]; decide))).symm) d_B_nextFreeNumber_40
        · refine lv_iconst (v := (-1)) hx hb d_B_nextFreeNumber_23 (by decide) ?_
          exact hret _ _ _ (by rw [← hf]; exact (if_neg c2).symm) d_B_nextFreeNumber_24
  exact lp2 61 60 1 rfl (by omega) rfl _ (lv_sub hl [1, 2, 0] rfl)
