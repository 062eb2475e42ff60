set_option maxHeartbeats 4000000 in
set_option maxRecDepth 100000 in
theorem c_N_isFull (l : Launch) (D : va_G) (ad : Nat → Nat) (kd : Nat → ClassId) (g : Nat → Nat → Int32) (z : Nat → Int64) (v : Nat → Int32) (nl : Nat) (hnl : v 3 = nI nl) (hl2 : nl ≤ 200) : RD l y_N_isFull (.code y_N_isFull b_N_isFull 1 (some .boolean) :: TB) ({ frames := 0, cells := 0, slots := 0, locals := 0 } : Room) [.ref (ad 9)] D classes (wA ad kd g z v) (tA kd) (bI (decide (200 ≤ nl))) := by
  refine rd_of (by decide +kernel) (bI_nar _) (Nat.le_of_ble_eq_true rfl) ?_
  intro p e s m args below meth c Q ls hx hb hml htb hown hP hK hl hret
  have hl : lv_has ls 1 [(0, .ref (ad 9))] := hl
  refine lv_aload_n hx hb d_N_isFull_0 rfl (lv_at hl 0 rfl) ?_
  refine va_get (D := D) (ci := 2) (v := .int (nI nl)) (C := R_N) (T := F_N) (N := 6) hx hb htb iw_N hown hK hP 9 rfl rfl 0 (by decide) (htb _ mw_95) (fun _ h9 => h9) (congrArg (fun x => some (Value.int x)) hnl) d_N_isFull_1 ?_
  refine lv_sipush (v := 200) hx hb d_N_isFull_4 (by decide) ?_
  refine q_icmp_lt (a := nl) (b := 200) (tgt := 14) hx hb (by omega) (by omega) d_N_isFull_7 (by decide) (fun c1 => ?_) (fun c1 => ?_)
  · refine lv_iconst (v := 0) hx hb d_N_isFull_14 (by decide) ?_
    exact hret _ _ _ (by simp [bI, c1]) d_N_isFull_15
  · refine lv_iconst (v := 1) hx hb d_N_isFull_10 (by decide) ?_
    refine lv_goto (tgt := 15) hx hb d_N_isFull_11 (by decide) ?_
    exact hret _ _ _ (by simp [bI, c1]) d_N_isFull_15
set_option maxHeartbeats 4000000 in
set_option maxRecDepth 100000 in
theorem c_N_add (l : Launch) (D : va_G) (ad : Nat → Nat) (kd : Nat → ClassId) (g : Nat → Nat → Int32) (z : Nat → Int64) (v : Nat → Int32) (nl : Nat) (hnl : v 3 = nI nl) (hl2 : nl ≤ 200) (hlt : nl < 200) (k : Nat) (hk : k < 60) (x q : Int32) : WRi l y_N_add (.code y_N_add b_N_add 4 (some .int) :: TB) ({ frames := 0, cells := 0, slots := 0, locals := 0 } : Room) [.ref (ad 9), .int (nI k), .int x, .int q] D classes (wA ad kd g z v) (wA ad kd (addN g nl k x q) z (upd v 3 (nI nl + 1))) (tA kd) (g 12 k) := by
  refine wr_of (by decide +kernel) (rfl) (Nat.le_of_ble_eq_true rfl) ?_
  intro p e s m args below meth c Q ls A hx hb hml htb hown hP hK hD hS hA hl hret
  have hl : lv_has ls 4 [(0, .ref (ad 9)), (1, .int (nI k)), (2, .int x), (3, .int q)] := hl
  refine lv_aload_n hx hb d_N_add_0 rfl (lv_at hl 0 rfl) ?_
  refine va_get (D := D) (ci := 2) (v := .ref (ad 10)) (C := R_N) (T := F_N) (N := 6) hx hb htb iw_N hown hK hP 9 rfl rfl 1 (by decide) (htb _ mw_97) (fun _ h9 => h9) rfl d_N_add_1 ?_
  refine lv_aload_n hx hb d_N_add_4 rfl (lv_at hl 0 rfl) ?_
  refine va_get (D := D) (ci := 2) (v := .int (nI nl)) (C := R_N) (T := F_N) (N := 6) hx hb htb iw_N hown hK hP 9 rfl rfl 0 (by decide) (htb _ mw_95) (fun _ h9 => h9) (congrArg (fun x => some (Value.int x)) hnl) d_N_add_5 ?_
  refine lv_iload_n hx hb d_N_add_8 rfl (lv_at hl 1 rfl) ?_
  refine q_iast hx hb hK hP hD hS 10 7 rfl rfl nl (x := (nI k)) (by omega) (by decide) d_N_add_9 (fun H locs hP hD hS => ?_)
  have hP : va_P D classes (wA ad kd (up g 10 nl (nI k)) z v) H := hP
  have hD : va_D A (wA ad kd (up g 10 nl (nI k)) z v) := hD
  refine lv_aload_n hx hb d_N_add_10 rfl (lv_at hl 0 rfl) ?_
  refine va_get (D := D) (ci := 2) (v := .ref (ad 11)) (C := R_N) (T := F_N) (N := 6) hx hb htb iw_N hown hK hP 9 rfl rfl 2 (by decide) (htb _ mw_98) (fun _ h9 => h9) rfl d_N_add_11 ?_
  refine lv_aload_n hx hb d_N_add_14 rfl (lv_at hl 0 rfl) ?_
  refine va_get (D := D) (ci := 2) (v := .int (nI nl)) (C := R_N) (T := F_N) (N := 6) hx hb htb iw_N hown hK hP 9 rfl rfl 0 (by decide) (htb _ mw_95) (fun _ h9 => h9) (congrArg (fun x => some (Value.int x)) hnl) d_N_add_15 ?_
  refine lv_iload_n hx hb d_N_add_18 rfl (lv_at hl 2 rfl) ?_
  refine q_iast hx hb hK hP hD hS 11 8 rfl rfl nl (x := x) (by omega) (by decide) d_N_add_19 (fun H locs hP hD hS => ?_)
  have hP : va_P D classes (wA ad kd (up (up g 10 nl (nI k)) 11 nl x) z v) H := hP
  have hD : va_D A (wA ad kd (up (up g 10 nl (nI k)) 11 nl x) z v) := hD
  refine lv_aload_n hx hb d_N_add_20 rfl (lv_at hl 0 rfl) ?_
  refine lv_dup hx hb d_N_add_21 rfl ?_
  refine va_get (D := D) (ci := 2) (v := .int (nI nl)) (C := R_N) (T := F_N) (N := 6) hx hb htb iw_N hown hK hP 9 rfl rfl 0 (by decide) (htb _ mw_95) (fun _ h9 => h9) (congrArg (fun x => some (Value.int x)) hnl) d_N_add_22 ?_
  refine lv_iconst (v := 1) hx hb d_N_add_25 (by decide) ?_
  refine lv_iadd hx hb d_N_add_26 ?_
  refine va_put (D := D) (ci := 2) (v := .int ((nI nl) + 1)) (ty := .int) (C := R_N) (T := F_N) (N := 6) hx hb htb iw_N t_N t_N_ok n_N hown hK hP hD hS 9 rfl rfl 0 (by decide) (htb _ mw_95) (fun _ h9 => h9) rfl (by decide +kernel) rfl rfl (Nat.le_of_ble_eq_true rfl) d_N_add_27 (fun H locs hP hD hS => ?_)
  have hP : va_P D classes (wA ad kd (up (up g 10 nl (nI k)) 11 nl x) z (upd v 3 ((nI nl) + 1))) H := hP
  have hD : va_D A (wA ad kd (up (up g 10 nl (nI k)) 11 nl x) z (upd v 3 ((nI nl) + 1))) := hD
  refine lv_aload_n hx hb d_N_add_30 rfl (lv_at hl 0 rfl) ?_
  refine va_get (D := D) (ci := 2) (v := .ref (ad 13)) (C := R_N) (T := F_N) (N := 6) hx hb htb iw_N hown hK hP 9 rfl rfl 4 (by decide) (htb _ mw_101) (fun _ h9 => h9) rfl d_N_add_31 ?_
  refine lv_iload_n hx hb d_N_add_34 rfl (lv_at hl 1 rfl) ?_
  refine lv_dup2_11 hx hb d_N_add_35 rfl rfl ?_
  refine q_iald hx hb hK hP 13 10 rfl rfl k (by omega) (by decide) d_N_add_36 ?_
  refine lv_iload_n hx hb d_N_add_37 rfl (lv_at hl 2 rfl) ?_
  refine lv_iadd hx hb d_N_add_38 ?_
  refine q_iast hx hb hK hP hD hS 13 10 rfl rfl k (x := ((g 13 k) + x)) (by omega) (by decide) d_N_add_39 (fun H locs hP hD hS => ?_)
  have hP : va_P D classes (wA ad kd (up (up (up g 10 nl (nI k)) 11 nl x) 13 k ((g 13 k) + x)) z (upd v 3 ((nI nl) + 1))) H := hP
  have hD : va_D A (wA ad kd (up (up (up g 10 nl (nI k)) 11 nl x) 13 k ((g 13 k) + x)) z (upd v 3 ((nI nl) + 1))) := hD
  refine lv_aload_n hx hb d_N_add_40 rfl (lv_at hl 0 rfl) ?_
  refine va_get (D := D) (ci := 2) (v := .ref (ad 14)) (C := R_N) (T := F_N) (N := 6) hx hb htb iw_N hown hK hP 9 rfl rfl 5 (by decide) (htb _ mw_103) (fun _ h9 => h9) rfl d_N_add_41 ?_
  refine lv_iload_n hx hb d_N_add_44 rfl (lv_at hl 1 rfl) ?_
  refine lv_dup2_11 hx hb d_N_add_45 rfl rfl ?_
  refine q_iald hx hb hK hP 14 11 rfl rfl k (by omega) (by decide) d_N_add_46 ?_
  refine lv_iload_n hx hb d_N_add_47 rfl (lv_at hl 3 rfl) ?_
  refine lv_iadd hx hb d_N_add_48 ?_
  refine q_iast hx hb hK hP hD hS 14 11 rfl rfl k (x := ((g 14 k) + q)) (by omega) (by decide) d_N_add_49 (fun H locs hP hD hS => ?_)
  have hP : va_P D classes (wA ad kd (up (up (up (up g 10 nl (nI k)) 11 nl x) 13 k ((g 13 k) + x)) 14 k ((g 14 k) + q)) z (upd v 3 ((nI nl) + 1))) H := hP
  have hD : va_D A (wA ad kd (up (up (up (up g 10 nl (nI k)) 11 nl x) 13 k ((g 13 k) + x)) 14 k ((g 14 k) + q)) z (upd v 3 ((nI nl) + 1))) := hD
  refine lv_aload_n hx hb d_N_add_50 rfl (lv_at hl 0 rfl) ?_
  refine va_get (D := D) (ci := 2) (v := .ref (ad 12)) (C := R_N) (T := F_N) (N := 6) hx hb htb iw_N hown hK hP 9 rfl rfl 3 (by decide) (htb _ mw_99) (fun _ h9 => h9) rfl d_N_add_51 ?_
  refine lv_iload_n hx hb d_N_add_54 rfl (lv_at hl 1 rfl) ?_
  refine lv_dup2_11 hx hb d_N_add_55 rfl rfl ?_
  refine q_iald hx hb hK hP 12 9 rfl rfl k (by omega) (by decide) d_N_add_56 ?_
  refine lv_iconst (v := 1) hx hb d_N_add_57 (by decide) ?_
  refine lv_iadd hx hb d_N_add_58 ?_
  refine q_iast hx hb hK hP hD hS 12 9 rfl rfl k (x := ((g 12 k) + 1)) (by omega) (by decide) d_N_add_59 (fun H locs hP hD hS => ?_)
  have hP : va_P D classes (wA ad kd (up (up (up (up (up g 10 nl (nI k)) 11 nl x) 13 k ((g 13 k) + x)) 14 k ((g 14 k) + q)) 12 k ((g 12 k) + 1)) z (upd v 3 ((nI nl) + 1))) H := hP
  have hD : va_D A (wA ad kd (up (up (up (up (up g 10 nl (nI k)) 11 nl x) 13 k ((g 13 k) + x)) 14 k ((g 14 k) + q)) 12 k ((g 12 k) + 1)) z (upd v 3 ((nI nl) + 1))) := hD
  refine lv_aload_n hx hb d_N_add_60 rfl (lv_at hl 0 rfl) ?_
  refine va_get (D := D) (ci := 2) (v := .ref (ad 12)) (C := R_N) (T := F_N) (N := 6) hx hb htb iw_N hown hK hP 9 rfl rfl 3 (by decide) (htb _ mw_99) (fun _ h9 => h9) rfl d_N_add_61 ?_
  refine lv_iload_n hx hb d_N_add_64 rfl (lv_at hl 1 rfl) ?_
  refine q_iald hx hb hK hP 12 9 rfl rfl k (by omega) (by decide) d_N_add_65 ?_
  refine lv_iconst (v := 1) hx hb d_N_add_66 (by decide) ?_
  refine lv_isub hx hb d_N_add_67 ?_
  exact hret _ _ _ _ _ (by show upd (g 12) k (g 12 k + 1) k - 1 = g 12 k; rw [pk_us]; exact Int32.add_sub_cancel _ _) hP hS d_N_add_68
set_option maxHeartbeats 4000000 in
set_option maxRecDepth 100000 in
theorem c_N_rowOf (l : Launch) (D : va_G) (ad : Nat → Nat) (kd : Nat → ClassId) (g : Nat → Nat → Int32) (z : Nat → Int64) (v : Nat → Int32) (nl : Nat) (hnl : v 3 = nI nl) (hl2 : nl ≤ 200) (x line : Int32) : RD l y_N_rowOf (.code y_N_rowOf b_N_rowOf 5 (some .int) :: TB) ({ frames := 0, cells := 0, slots := 0, locals := 0 } : Room) [.ref (ad 9), .int x, .int line] D classes (wA ad kd g z v) (tA kd) (rowN g nl x line) := by
  refine rd_of (by decide +kernel) (rfl) (Nat.le_of_ble_eq_true rfl) ?_
  intro p e s m args below meth c Q ls hx hb hml htb hown hP hK hl hret
  have hl : lv_has ls 5 [(0, .ref (ad 9)), (1, .int x), (2, .int line)] := hl
  refine lv_iconst (v := 0) hx hb d_N_rowOf_0 (by decide) ?_
  refine lv_istore_n (lv' := [(3, .int 0), (0, .ref (ad 9)), (1, .int x), (2, .int line)]) hx hb d_N_rowOf_1 rfl hl (by decide) rfl (fun ls hl => ?_)
  refine lv_iconst (v := 0) hx hb d_N_rowOf_2 (by decide) ?_
  refine lv_istore (lv' := [(4, .int 0), (3, .int 0), (0, .ref (ad 9)), (1, .int x), (2, .int line)]) hx hb d_N_rowOf_3 hl (by decide) rfl (fun ls hl => ?_)
  have lp5 : ∀ (n : Nat) (i : Nat) (f : Nat), i ≤ nl → nl + 1 ≤ i + n → f = cntN (fun k => decide (g 10 k = x)) i → pickN (fun k => decide (g 10 k = x)) line i = -1 → ∀ (ls : Array Slot), lv_has ls 5 [(0, .ref (ad 9)), (1, .int x), (2, .int line), (3, .int (nI f)), (4, .int (nI i))] → W p l e ({ frames := 0, cells := 0, slots := 0, locals := 0 } : Room) s m args below meth c s.heap [] 0 0 Q (F0 m 5 ls []) := by
    intro n
    induction n with
    | zero => intro i f hi hm hf hp ls hl; exact absurd hm (by omega)
    | succ n ih =>
      intro i f hi hm hf hp ls hl
      refine lv_iload hx hb d_N_rowOf_5 (lv_at hl 4 rfl) ?_
      refine lv_aload_n hx hb d_N_rowOf_7 rfl (lv_at hl 0 rfl) ?_
      refine va_get (D := D) (ci := 2) (v := .int (nI nl)) (C := R_N) (T := F_N) (N := 6) hx hb htb iw_N hown hK hP 9 rfl rfl 0 (by decide) (htb _ mw_95) (fun _ h9 => h9) (congrArg (fun x => some (Value.int x)) hnl) d_N_rowOf_8 ?_
      refine q_icmp_ge (a := i) (b := nl) (tgt := 42) hx hb (by omega) (by omega) d_N_rowOf_11 (by decide) (fun c1 => ?_) (fun c1 => ?_)
      · refine lv_iconst (v := (-1)) hx hb d_N_rowOf_42 (by decide) ?_
        exact hret _ _ _ (by show -1 = pickN (fun k => decide (g 10 k = x)) line nl; rw [show nl = i by omega, hp]) d_N_rowOf_43
      · refine lv_aload_n hx hb d_N_rowOf_14 rfl (lv_at hl 0 rfl) ?_
        refine va_get (D := D) (ci := 2) (v := .ref (ad 10)) (C := R_N) (T := F_N) (N := 6) hx hb htb iw_N hown hK hP 9 rfl rfl 1 (by decide) (htb _ mw_97) (fun _ h9 => h9) rfl d_N_rowOf_15 ?_
        refine lv_iload hx hb d_N_rowOf_18 (lv_at hl 4 rfl) ?_
        refine q_iald hx hb hK hP 10 7 rfl rfl i (by omega) (by decide) d_N_rowOf_20 ?_
        refine lv_iload_n hx hb d_N_rowOf_21 rfl (lv_at hl 1 rfl) ?_
        refine lv_icmp_ne (tgt := 36) hx hb d_N_rowOf_22 (by decide) (fun c2 => ?_) (fun c2 => ?_)
        · refine lv_iinc (v := (nI (i + 1))) (lv' := [(4, .int (nI (i + 1))), (0, .ref (ad 9)), (1, .int x), (2, .int line), (3, .int (nI f))]) hx hb d_N_rowOf_36 hl (k := 4) rfl (q_inc _) (by decide) rfl (fun ls hl => ?_)
          refine lv_goto (tgt := 5) hx hb d_N_rowOf_39 (by decide) ?_
          exact ih (i + 1) f (by omega) (by omega) (by rw [cntN_f (by simp [c1, c2]), hf]) (pickN_miss hp (by simp [c1, c2])) _ (lv_sub hl [1, 2, 3, 4, 0] rfl)
        · refine lv_iload_n hx hb d_N_rowOf_25 rfl (lv_at hl 3 rfl) ?_
          refine lv_iload_n hx hb d_N_rowOf_26 rfl (lv_at hl 2 rfl) ?_
          refine lv_icmp_ne (tgt := 33) hx hb d_N_rowOf_27 (by decide) (fun c3 => ?_) (fun c3 => ?_)
          · refine lv_iinc (v := (nI (f + 1))) (lv' := [(3, .int (nI (f + 1))), (0, .ref (ad 9)), (1, .int x), (2, .int line), (4, .int (nI i))]) hx hb d_N_rowOf_33 hl (k := 3) rfl (q_inc _) (by decide) rfl (fun ls hl => ?_)
            refine lv_iinc (v := (nI (i + 1))) (lv' := [(4, .int (nI (i + 1))), (3, .int (nI (f + 1))), (0, .ref (ad 9)), (1, .int x), (2, .int line)]) hx hb d_N_rowOf_36 hl (k := 4) rfl (q_inc _) (by decide) rfl (fun ls hl => ?_)
            refine lv_goto (tgt := 5) hx hb d_N_rowOf_39 (by decide) ?_
            exact ih (i + 1) (f + 1) (by omega) (by omega) (by rw [cntN_t (by simp [c1, c2, c3]), hf]) (pickN_pass hp (by rw [← hf]; assumption)) _ (lv_sub hl [2, 3, 4, 1, 0] rfl)
          · refine lv_iload hx hb d_N_rowOf_30 (lv_at hl 4 rfl) ?_
            exact hret _ _ _ (by show nI i = pickN (fun k => decide (g 10 k = x)) line nl; rw [pickN_hit (i := i) (by omega) hp (by simp [c1, c2, c3]) (by rw [← hf]; assumption) (by omega)]) d_N_rowOf_32
  exact lp5 (nl + 1) 0 0 (Nat.zero_le _) (by omega) rfl rfl _ (lv_sub hl [2, 3, 4, 1, 0] rfl)
set_option maxHeartbeats 4000000 in
set_option maxRecDepth 100000 in
theorem c_N_changeWeight (l : Launch) (D : va_G) (ad : Nat → Nat) (kd : Nat → ClassId) (g : Nat → Nat → Int32) (z : Nat → Int64) (v : Nat → Int32) (i : Nat) (hi : i < 200) (x : Int32) (j : Nat) (hj : j < 60) (hg : g 10 i = nI j) : WRi l y_N_changeWeight (.code y_N_changeWeight b_N_changeWeight 4 (some .int) :: TB) ({ frames := 0, cells := 0, slots := 0, locals := 0 } : Room) [.ref (ad 9), .int (nI i), .int x] D classes (wA ad kd g z v) (wA ad kd (chgN g i x j) z v) (tA kd) (x - g 11 i) := by
  refine wr_of (by decide +kernel) (rfl) (Nat.le_of_ble_eq_true rfl) ?_
  intro p e s m args below meth c Q ls A hx hb hml htb hown hP hK hD hS hA hl hret
  have hl : lv_has ls 4 [(0, .ref (ad 9)), (1, .int (nI i)), (2, .int x)] := hl
  refine lv_iload_n hx hb d_N_changeWeight_0 rfl (lv_at hl 2 rfl) ?_
  refine lv_aload_n hx hb d_N_changeWeight_1 rfl (lv_at hl 0 rfl) ?_
  refine va_get (D := D) (ci := 2) (v := .ref (ad 11)) (C := R_N) (T := F_N) (N := 6) hx hb htb iw_N hown hK hP 9 rfl rfl 2 (by decide) (htb _ mw_98) (fun _ h9 => h9) rfl d_N_changeWeight_2 ?_
  refine lv_iload_n hx hb d_N_changeWeight_5 rfl (lv_at hl 1 rfl) ?_
  refine q_iald hx hb hK hP 11 8 rfl rfl i (by omega) (by decide) d_N_changeWeight_6 ?_
  refine lv_isub hx hb d_N_changeWeight_7 ?_
  refine lv_istore_n (lv' := [(3, .int (x - (g 11 i))), (0, .ref (ad 9)), (1, .int (nI i)), (2, .int x)]) hx hb d_N_changeWeight_8 rfl hl (by decide) rfl (fun ls hl => ?_)
  refine lv_aload_n hx hb d_N_changeWeight_9 rfl (lv_at hl 1 rfl) ?_
  refine va_get (D := D) (ci := 2) (v := .ref (ad 11)) (C := R_N) (T := F_N) (N := 6) hx hb htb iw_N hown hK hP 9 rfl rfl 2 (by decide) (htb _ mw_98) (fun _ h9 => h9) rfl d_N_changeWeight_10 ?_
  refine lv_iload_n hx hb d_N_changeWeight_13 rfl (lv_at hl 2 rfl) ?_
  refine lv_iload_n hx hb d_N_changeWeight_14 rfl (lv_at hl 3 rfl) ?_
  refine q_iast hx hb hK hP hD hS 11 8 rfl rfl i (x := x) (by omega) (by decide) d_N_changeWeight_15 (fun H locs hP hD hS => ?_)
  have hP : va_P D classes (wA ad kd (up g 11 i x) z v) H := hP
  have hD : va_D A (wA ad kd (up g 11 i x) z v) := hD
  refine lv_aload_n hx hb d_N_changeWeight_16 rfl (lv_at hl 1 rfl) ?_
  refine va_get (D := D) (ci := 2) (v := .ref (ad 13)) (C := R_N) (T := F_N) (N := 6) hx hb htb iw_N hown hK hP 9 rfl rfl 4 (by decide) (htb _ mw_101) (fun _ h9 => h9) rfl d_N_changeWeight_17 ?_
  refine lv_aload_n hx hb d_N_changeWeight_20 rfl (lv_at hl 1 rfl) ?_
  refine va_get (D := D) (ci := 2) (v := .ref (ad 10)) (C := R_N) (T := F_N) (N := 6) hx hb htb iw_N hown hK hP 9 rfl rfl 1 (by decide) (htb _ mw_97) (fun _ h9 => h9) rfl d_N_changeWeight_21 ?_
  refine lv_iload_n hx hb d_N_changeWeight_24 rfl (lv_at hl 2 rfl) ?_
  refine q_iald hx hb hK hP 10 7 rfl rfl i (by omega) (by decide) d_N_changeWeight_25 ?_
  refine W.eq (congrArg (fun z => F0 m 26 ls (.int z :: [.ref (ad 13)])) (show (g 10 i) = (nI j) from hg)) ?_
  refine lv_dup2_11 hx hb d_N_changeWeight_26 rfl rfl ?_
  refine q_iald hx hb hK hP 13 10 rfl rfl j (by omega) (by decide) d_N_changeWeight_27 ?_
  refine lv_iload_n hx hb d_N_changeWeight_28 rfl (lv_at hl 0 rfl) ?_
  refine lv_iadd hx hb d_N_changeWeight_29 ?_
  refine q_iast hx hb hK hP hD hS 13 10 rfl rfl j (x := ((g 13 j) + (x - (g 11 i)))) (by omega) (by decide) d_N_changeWeight_30 (fun H locs hP hD hS => ?_)
  have hP : va_P D classes (wA ad kd (up (up g 11 i x) 13 j ((g 13 j) + (x - (g 11 i)))) z v) H := hP
  have hD : va_D A (wA ad kd (up (up g 11 i x) 13 j ((g 13 j) + (x - (g 11 i)))) z v) := hD
  refine lv_iload_n hx hb d_N_changeWeight_31 rfl (lv_at hl 0 rfl) ?_
  exact hret _ _ _ _ _ rfl hP hS d_N_changeWeight_32
set_option maxHeartbeats 4000000 in
set_option maxRecDepth 100000 in
theorem c_N_take (l : Launch) (D : va_G) (ad : Nat → Nat) (kd : Nat → ClassId) (g : Nat → Nat → Int32) (z : Nat → Int64) (v : Nat → Int32) (nl : Nat) (hnl : v 3 = nI nl) (hl2 : nl ≤ 200) (k : Nat) (hk : k < 60) (kg : Int32) : WRv l y_N_take (.code y_N_take b_N_take 6 none :: TB) ({ frames := 1, cells := 0, slots := 0, locals := 23 } : Room) [.ref (ad 9), .int (nI k), .int kg] D classes (wA ad kd g z v) (wA ad kd (takN k nl kg g) z v) (tA kd) := by
  refine wv_of (by decide +kernel) (Nat.le_of_ble_eq_true rfl) ?_
  intro p e s m args below meth c Q ls A hx hb hml htb hown hP hK hD hS hA hl hret
  have hl : lv_has ls 6 [(0, .ref (ad 9)), (1, .int (nI k)), (2, .int kg)] := hl
  refine lv_iload_n hx hb d_N_take_0 rfl (lv_at hl 2 rfl) ?_
  refine lv_istore_n (lv' := [(3, .int kg), (0, .ref (ad 9)), (1, .int (nI k)), (2, .int kg)]) hx hb d_N_take_1 rfl hl (by decide) rfl (fun ls hl => ?_)
  refine lv_aload_n hx hb d_N_take_2 rfl (lv_at hl 1 rfl) ?_
  refine va_get (D := D) (ci := 2) (v := .int (nI nl)) (C := R_N) (T := F_N) (N := 6) hx hb htb iw_N hown hK hP 9 rfl rfl 0 (by decide) (htb _ mw_95) (fun _ h9 => h9) (congrArg (fun x => some (Value.int x)) hnl) d_N_take_3 ?_
  refine lv_iconst (v := 1) hx hb d_N_take_6 (by decide) ?_
  refine lv_isub hx hb d_N_take_7 ?_
  refine lv_istore (lv' := [(4, .int ((nI nl) - 1)), (3, .int kg), (0, .ref (ad 9)), (1, .int (nI k)), (2, .int kg)]) hx hb d_N_take_8 hl (by decide) rfl (fun ls hl => ?_)
  have lp10 : ∀ (n : Nat) (r : Nat) (lf : Int32) (g1 : Nat → Nat → Int32) (H : Heap) (locs : List Loc), r ≤ nl → r + 1 ≤ n → takN k r lf g1 = takN k nl kg g → va_P D classes (wA ad kd g1 z v) H → va_D A (wA ad kd g1 z v) → va_S A s.heap H locs → ∀ (ls : Array Slot), lv_has ls 6 [(0, .ref (ad 9)), (1, .int (nI k)), (3, .int lf), (4, .int (rwI r))] → W p l e ({ frames := 1, cells := 0, slots := 0, locals := 23 } : Room) s m args below meth c H locs 0 0 Q (F0 m 10 ls []) := by
    intro n
    induction n with
    | zero => intro r lf g1 H locs hr hm hf hP hD hS ls hl; exact absurd hm (by omega)
    | succ n ih =>
      intro r lf g1 H locs hr hm hf hP hD hS ls hl
      refine lv_iload hx hb d_N_take_10 (lv_at hl 3 rfl) ?_
      refine lv_if_lt (tgt := 71) hx hb d_N_take_12 (by decide) (fun c1 => ?_) (fun c1 => ?_)
      · exact hret _ _ _ _ (by rw [← hf, show r = 0 from rwI_neg (by omega) c1]; exact hP) hS d_N_take_71
      · obtain ⟨q, rfl⟩ := rwI_pos c1
        rw [rwI_s] at hl
        refine lv_iload_n hx hb d_N_take_15 rfl (lv_at hl 2 rfl) ?_
        refine lv_if_le (tgt := 71) hx hb d_N_take_16 (by decide) (fun c2 => ?_) (fun c2 => ?_)
        · exact hret _ _ _ _ (by rw [← hf]; exact (show va_P D classes (wA ad kd (if lf ≤ 0 then g1 else if g1 10 q = nI k then takN k q (lf - (if g1 11 q < lf then g1 11 q else lf)) (chgN g1 q (g1 11 q - (if g1 11 q < lf then g1 11 q else lf)) k) else takN k q lf g1) z v) H by rw [if_pos c2]; exact hP)) hS d_N_take_71
        · refine lv_aload_n hx hb d_N_take_19 rfl (lv_at hl 0 rfl) ?_
          refine va_get (D := D) (ci := 2) (v := .ref (ad 10)) (C := R_N) (T := F_N) (N := 6) hx hb htb iw_N hown hK hP 9 rfl rfl 1 (by decide) (htb _ mw_97) (fun _ h9 => h9) rfl d_N_take_20 ?_
          refine lv_iload hx hb d_N_take_23 (lv_at hl 3 rfl) ?_
          refine q_iald hx hb hK hP 10 7 rfl rfl q (by omega) (by decide) d_N_take_25 ?_
          refine lv_iload_n hx hb d_N_take_26 rfl (lv_at hl 1 rfl) ?_
          refine lv_icmp_ne (tgt := 65) hx hb d_N_take_27 (by decide) (fun c3 => ?_) (fun c3 => ?_)
          · refine lv_iinc (v := (rwI q)) (lv' := [(4, .int (rwI q)), (0, .ref (ad 9)), (1, .int (nI k)), (3, .int lf)]) hx hb d_N_take_65 hl (k := 3) rfl (rwI_dec q) (by decide) rfl (fun ls hl => ?_)
            refine lv_goto (tgt := 10) hx hb d_N_take_68 (by decide) ?_
            exact ih q lf g1 H locs (by omega) (by omega) (by rw [← hf]; show takN k q lf g1 = (if lf ≤ 0 then g1 else if g1 10 q = nI k then takN k q (lf - (if g1 11 q < lf then g1 11 q else lf)) (chgN g1 q (g1 11 q - (if g1 11 q < lf then g1 11 q else lf)) k) else takN k q lf g1); rw [if_neg c2, if_neg c3]) hP hD hS _ (lv_sub hl [1, 2, 3, 0] rfl)
          · refine lv_iload_n hx hb d_N_take_30 rfl (lv_at hl 2 rfl) ?_
            refine lv_aload_n hx hb d_N_take_31 rfl (lv_at hl 0 rfl) ?_
            refine va_get (D := D) (ci := 2) (v := .ref (ad 11)) (C := R_N) (T := F_N) (N := 6) hx hb htb iw_N hown hK hP 9 rfl rfl 2 (by decide) (htb _ mw_98) (fun _ h9 => h9) rfl d_N_take_32 ?_
            refine lv_iload hx hb d_N_take_35 (lv_at hl 3 rfl) ?_
            refine q_iald hx hb hK hP 11 8 rfl rfl q (by omega) (by decide) d_N_take_37 ?_
            refine va_mmin hx hb (by rw [hml]; exact hl.1.symm) hown (htb _ mw_501) (htb _ mw_502) (htb _ mw_38) (htb _ mw_503) (Nat.le_of_ble_eq_true rfl) (Nat.le_of_ble_eq_true rfl) (Nat.zero_le _) (Nat.zero_le _) d_N_take_38 ?_
            refine lv_istore (lv' := [(5, .int (if (g1 11 q) < lf then (g1 11 q) else lf)), (0, .ref (ad 9)), (1, .int (nI k)), (3, .int lf), (4, .int (nI q))]) hx hb d_N_take_41 hl (by decide) rfl (fun ls hl => ?_)
            refine lv_aload_n hx hb d_N_take_43 rfl (lv_at hl 1 rfl) ?_
            refine lv_iload hx hb d_N_take_44 (lv_at hl 4 rfl) ?_
            refine lv_aload_n hx hb d_N_take_46 rfl (lv_at hl 1 rfl) ?_
            refine va_get (D := D) (ci := 2) (v := .ref (ad 11)) (C := R_N) (T := F_N) (N := 6) hx hb htb iw_N hown hK hP 9 rfl rfl 2 (by decide) (htb _ mw_98) (fun _ h9 => h9) rfl d_N_take_47 ?_
            refine lv_iload hx hb d_N_take_50 (lv_at hl 4 rfl) ?_
            refine q_iald hx hb hK hP 11 8 rfl rfl q (by omega) (by decide) d_N_take_52 ?_
            refine lv_iload hx hb d_N_take_53 (lv_at hl 0 rfl) ?_
            refine lv_isub hx hb d_N_take_55 ?_
            refine wrV (As := [.int (nI q), .int ((g1 11 q) - (if (g1 11 q) < lf then (g1 11 q) else lf))]) (rest := []) (b := ad 9) ⟨hx, hb, hml, hown, htb⟩ (c_N_changeWeight l D ad kd g1 z v q (by omega) ((g1 11 q) - (if (g1 11 q) < lf then (g1 11 q) else lf)) k hk c3) (cwV (C := R_N) 2 htb (gV tb_good mw_504 mw_452 mw_453 mw_29 mw_454) rfl rfl rfl (by decide +kernel) ⟨Nat.le_of_ble_eq_true rfl, Nat.le_of_ble_eq_true rfl⟩) hP hK hD hS hA (va_recv hK hP (ci := 2) (q0 := 9) rfl rfl) rfl hl.1 rfl (lv_room (Nat.le_of_ble_eq_true rfl)) d_N_take_56 ⟨Nat.zero_le _, Nat.zero_le _⟩ (fun H locs hP hS => ?_)
            have hP : va_P D classes (wA ad kd (chgN g1 q ((g1 11 q) - (if (g1 11 q) < lf then (g1 11 q) else lf)) k) z v) H := hP
            have hD : va_D A (wA ad kd (chgN g1 q ((g1 11 q) - (if (g1 11 q) < lf then (g1 11 q) else lf)) k) z v) := wA_D hD
            refine lv_pop hx hb d_N_take_59 rfl ?_
            refine lv_iload_n hx hb d_N_take_60 rfl (lv_at hl 3 rfl) ?_
            refine lv_iload hx hb d_N_take_61 (lv_at hl 0 rfl) ?_
            refine lv_isub hx hb d_N_take_63 ?_
            refine lv_istore_n (lv' := [(3, .int (lf - (if (g1 11 q) < lf then (g1 11 q) else lf))), (5, .int (if (g1 11 q) < lf then (g1 11 q) else lf)), (0, .ref (ad 9)), (1, .int (nI k)), (4, .int (nI q))]) hx hb d_N_take_64 rfl hl (by decide) rfl (fun ls hl => ?_)
            refine lv_iinc (v := (rwI q)) (lv' := [(4, .int (rwI q)), (3, .int (lf - (if (g1 11 q) < lf then (g1 11 q) else lf))), (5, .int (if (g1 11 q) < lf then (g1 11 q) else lf)), (0, .ref (ad 9)), (1, .int (nI k))]) hx hb d_N_take_65 hl (k := 4) rfl (rwI_dec q) (by decide) rfl (fun ls hl => ?_)
            refine lv_goto (tgt := 10) hx hb d_N_take_68 (by decide) ?_
            exact ih q (lf - (if (g1 11 q) < lf then (g1 11 q) else lf)) (chgN g1 q ((g1 11 q) - (if (g1 11 q) < lf then (g1 11 q) else lf)) k) H locs (by omega) (by omega) (by rw [← hf]; show takN k q (lf - (if (g1 11 q) < lf then (g1 11 q) else lf)) (chgN g1 q ((g1 11 q) - (if (g1 11 q) < lf then (g1 11 q) else lf)) k) = (if lf ≤ 0 then g1 else if g1 10 q = nI k then takN k q (lf - (if g1 11 q < lf then g1 11 q else lf)) (chgN g1 q (g1 11 q - (if g1 11 q < lf then g1 11 q else lf)) k) else takN k q lf g1); rw [if_neg c2, if_pos c3]) hP hD hS _ (lv_sub hl [3, 4, 1, 0] rfl)
  exact lp10 (nl + 1) nl kg g s.heap [] (Nat.le_refl _) (Nat.le_refl _) rfl hP hD hS _ (lv_sub hl [2, 3, 1, 0] rfl)
