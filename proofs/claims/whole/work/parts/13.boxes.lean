set_option maxHeartbeats 4000000 in
set_option maxRecDepth 100000 in
theorem c_X_has (l : Launch) (D : va_G) (ad : Nat → Nat) (kd : Nat → ClassId) (g : Nat → Nat → Int32) (z : Nat → Int64) (v : Nat → Int32) (nx : Nat) (hnx : v 4 = nI nx) (hx6 : nx ≤ 60) (x : Int32) : RD l y_X_has (.code y_X_has b_X_has 2 (some .boolean) :: TB) ({ frames := 0, cells := 0, slots := 0, locals := 0 } : Room) [.ref (ad 15), .int x] D classes (wA ad kd g z v) (tA kd) (bI (inN nx x)) := by
  refine rd_of (by decide +kernel) (bI_nar _) (Nat.le_of_ble_eq_true rfl) ?_
  intro p e s m args below meth c Q ls hx hb hml htb hown hP hK hl hret
  have hl : lv_has ls 2 [(0, .ref (ad 15)), (1, .int x)] := hl
  refine lv_iload_n hx hb d_X_has_0 rfl (lv_at hl 1 rfl) ?_
  refine lv_if_lt (tgt := 16) hx hb d_X_has_1 (by decide) (fun c1 => ?_) (fun c1 => ?_)
  · refine lv_iconst (v := 0) hx hb d_X_has_16 (by decide) ?_
    exact hret _ _ _ (by simp [inN, bI, c1]) d_X_has_17
  · refine lv_iload_n hx hb d_X_has_4 rfl (lv_at hl 1 rfl) ?_
    refine lv_aload_n hx hb d_X_has_5 rfl (lv_at hl 0 rfl) ?_
    refine va_get (D := D) (ci := 3) (v := .int (nI nx)) (C := R_X) (T := F_X) (N := 9) hx hb htb iw_X hown hK hP 15 rfl rfl 0 (by decide) (htb _ mw_124) (fun _ h9 => h9) (congrArg (fun x => some (Value.int x)) hnx) d_X_has_6 ?_
    refine lv_icmp_ge (tgt := 16) hx hb d_X_has_9 (by decide) (fun c2 => ?_) (fun c2 => ?_)
    · refine lv_iconst (v := 0) hx hb d_X_has_16 (by decide) ?_
      exact hret _ _ _ (by simp [inN, bI, c1, c2]) d_X_has_17
    · refine lv_iconst (v := 1) hx hb d_X_has_12 (by decide) ?_
      refine lv_goto (tgt := 17) hx hb d_X_has_13 (by decide) ?_
      exact hret _ _ _ (by simp [inN, bI, c1, c2]) d_X_has_17
set_option maxHeartbeats 4000000 in
set_option maxRecDepth 100000 in
theorem c_X_isFull (l : Launch) (D : va_G) (ad : Nat → Nat) (kd : Nat → ClassId) (g : Nat → Nat → Int32) (z : Nat → Int64) (v : Nat → Int32) (nx : Nat) (hnx : v 4 = nI nx) (hx6 : nx ≤ 60) : RD l y_X_isFull (.code y_X_isFull b_X_isFull 1 (some .boolean) :: TB) ({ frames := 0, cells := 0, slots := 0, locals := 0 } : Room) [.ref (ad 15)] D classes (wA ad kd g z v) (tA kd) (bI (decide (60 ≤ nx))) := by
  refine rd_of (by decide +kernel) (bI_nar _) (Nat.le_of_ble_eq_true rfl) ?_
  intro p e s m args below meth c Q ls hx hb hml htb hown hP hK hl hret
  have hl : lv_has ls 1 [(0, .ref (ad 15))] := hl
  refine lv_aload_n hx hb d_X_isFull_0 rfl (lv_at hl 0 rfl) ?_
  refine va_get (D := D) (ci := 3) (v := .int (nI nx)) (C := R_X) (T := F_X) (N := 9) hx hb htb iw_X hown hK hP 15 rfl rfl 0 (by decide) (htb _ mw_124) (fun _ h9 => h9) (congrArg (fun x => some (Value.int x)) hnx) d_X_isFull_1 ?_
  refine lv_bipush (v := 60) hx hb d_X_isFull_4 (by decide) ?_
  refine q_icmp_lt (a := nx) (b := 60) (tgt := 13) hx hb (by omega) (by omega) d_X_isFull_6 (by decide) (fun c1 => ?_) (fun c1 => ?_)
  · refine lv_iconst (v := 0) hx hb d_X_isFull_13 (by decide) ?_
    exact hret _ _ _ (by simp [bI, c1]) d_X_isFull_14
  · refine lv_iconst (v := 1) hx hb d_X_isFull_9 (by decide) ?_
    refine lv_goto (tgt := 14) hx hb d_X_isFull_10 (by decide) ?_
    exact hret _ _ _ (by simp [bI, c1]) d_X_isFull_14
set_option maxHeartbeats 4000000 in
set_option maxRecDepth 100000 in
theorem c_X_isTaken (l : Launch) (D : va_G) (ad : Nat → Nat) (kd : Nat → ClassId) (g : Nat → Nat → Int32) (z : Nat → Int64) (v : Nat → Int32) (nx : Nat) (hnx : v 4 = nI nx) (hx6 : nx ≤ 60) (x y : Int32) : RD l y_X_isTaken (.code y_X_isTaken b_X_isTaken 4 (some .boolean) :: TB) ({ frames := 0, cells := 0, slots := 0, locals := 0 } : Room) [.ref (ad 15), .int x, .int y] D classes (wA ad kd g z v) (tA kd) (bI (takX g nx x y)) := by
  refine rd_of (by decide +kernel) (bI_nar _) (Nat.le_of_ble_eq_true rfl) ?_
  intro p e s m args below meth c Q ls hx hb hml htb hown hP hK hl hret
  have hl : lv_has ls 4 [(0, .ref (ad 15)), (1, .int x), (2, .int y)] := hl
  refine lv_iconst (v := 0) hx hb d_X_isTaken_0 (by decide) ?_
  refine lv_istore_n (lv' := [(3, .int 0), (0, .ref (ad 15)), (1, .int x), (2, .int y)]) hx hb d_X_isTaken_1 rfl hl (by decide) rfl (fun ls hl => ?_)
  have lp2 : ∀ (n : Nat) (i : Nat), i ≤ nx → nx + 1 ≤ i + n → anyN (fun k => decide (g 16 k = x) && decide (g 17 k = y)) i = false → ∀ (ls : Array Slot), lv_has ls 4 [(0, .ref (ad 15)), (1, .int x), (2, .int y), (3, .int (nI i))] → W p l e ({ frames := 0, cells := 0, slots := 0, locals := 0 } : Room) s m args below meth c s.heap [] 0 0 Q (F0 m 2 ls []) := by
    intro n
    induction n with
    | zero => intro i hi hm hf ls hl; exact absurd hm (by omega)
    | succ n ih =>
      intro i hi hm hf ls hl
      refine lv_iload_n hx hb d_X_isTaken_2 rfl (lv_at hl 3 rfl) ?_
      refine lv_aload_n hx hb d_X_isTaken_3 rfl (lv_at hl 0 rfl) ?_
      refine va_get (D := D) (ci := 3) (v := .int (nI nx)) (C := R_X) (T := F_X) (N := 9) hx hb htb iw_X hown hK hP 15 rfl rfl 0 (by decide) (htb _ mw_124) (fun _ h9 => h9) (congrArg (fun x => some (Value.int x)) hnx) d_X_isTaken_4 ?_
      refine q_icmp_ge (a := i) (b := nx) (tgt := 38) hx hb (by omega) (by omega) d_X_isTaken_7 (by decide) (fun c1 => ?_) (fun c1 => ?_)
      · refine lv_iconst (v := 0) hx hb d_X_isTaken_38 (by decide) ?_
        exact hret _ _ _ (by show 0 = bI (anyN (fun k => decide (g 16 k = x) && decide (g 17 k = y)) nx); rw [show nx = i by omega, hf]; rfl) d_X_isTaken_39
      · refine lv_aload_n hx hb d_X_isTaken_10 rfl (lv_at hl 0 rfl) ?_
        refine va_get (D := D) (ci := 3) (v := .ref (ad 16)) (C := R_X) (T := F_X) (N := 9) hx hb htb iw_X hown hK hP 15 rfl rfl 1 (by decide) (htb _ mw_126) (fun _ h9 => h9) rfl d_X_isTaken_11 ?_
        refine lv_iload_n hx hb d_X_isTaken_14 rfl (lv_at hl 3 rfl) ?_
        refine q_iald hx hb hK hP 16 12 rfl rfl i (by omega) (by decide) d_X_isTaken_15 ?_
        refine lv_iload_n hx hb d_X_isTaken_16 rfl (lv_at hl 1 rfl) ?_
        refine lv_icmp_ne (tgt := 32) hx hb d_X_isTaken_17 (by decide) (fun c2 => ?_) (fun c2 => ?_)
        · refine lv_iinc (v := (nI (i + 1))) (lv' := [(3, .int (nI (i + 1))), (0, .ref (ad 15)), (1, .int x), (2, .int y)]) hx hb d_X_isTaken_32 hl (k := 3) rfl (q_inc _) (by decide) rfl (fun ls hl => ?_)
          refine lv_goto (tgt := 2) hx hb d_X_isTaken_35 (by decide) ?_
          exact ih (i + 1) (by omega) (by omega) (by simp [anyN, hf, c1, c2]) _ (lv_sub hl [1, 2, 3, 0] rfl)
        · refine lv_aload_n hx hb d_X_isTaken_20 rfl (lv_at hl 0 rfl) ?_
          refine va_get (D := D) (ci := 3) (v := .ref (ad 17)) (C := R_X) (T := F_X) (N := 9) hx hb htb iw_X hown hK hP 15 rfl rfl 2 (by decide) (htb _ mw_128) (fun _ h9 => h9) rfl d_X_isTaken_21 ?_
          refine lv_iload_n hx hb d_X_isTaken_24 rfl (lv_at hl 3 rfl) ?_
          refine q_iald hx hb hK hP 17 13 rfl rfl i (by omega) (by decide) d_X_isTaken_25 ?_
          refine lv_iload_n hx hb d_X_isTaken_26 rfl (lv_at hl 2 rfl) ?_
          refine lv_icmp_ne (tgt := 32) hx hb d_X_isTaken_27 (by decide) (fun c3 => ?_) (fun c3 => ?_)
          · refine lv_iinc (v := (nI (i + 1))) (lv' := [(3, .int (nI (i + 1))), (0, .ref (ad 15)), (1, .int x), (2, .int y)]) hx hb d_X_isTaken_32 hl (k := 3) rfl (q_inc _) (by decide) rfl (fun ls hl => ?_)
            refine lv_goto (tgt := 2) hx hb d_X_isTaken_35 (by decide) ?_
            exact ih (i + 1) (by omega) (by omega) (by simp [anyN, hf, c1, c2, c3]) _ (lv_sub hl [1, 2, 3, 0] rfl)
          · refine lv_iconst (v := 1) hx hb d_X_isTaken_30 (by decide) ?_
            exact hret _ _ _ (by show 1 = bI (anyN (fun k => decide (g 16 k = x) && decide (g 17 k = y)) nx); rw [anyN_hit (i := i) (by simp [c1, c2, c3]) (by omega)]; rfl) d_X_isTaken_31
  exact lp2 (nx + 1) 0 (Nat.zero_le _) (by omega) rfl _ (lv_sub hl [1, 2, 3, 0] rfl)
set_option maxHeartbeats 4000000 in
set_option maxRecDepth 100000 in
theorem c_X_add (l : Launch) (D : va_G) (ad : Nat → Nat) (kd : Nat → ClassId) (g : Nat → Nat → Int32) (z : Nat → Int64) (v : Nat → Int32) (nx : Nat) (hnx : v 4 = nI nx) (hx6 : nx ≤ 60) (hlt : nx < 60) (a1 a2 a3 : Int32) : WRi l y_X_add (.code y_X_add b_X_add 5 (some .int) :: TB) ({ frames := 0, cells := 0, slots := 0, locals := 0 } : Room) [.ref (ad 15), .int a1, .int a2, .int a3] D classes (wA ad kd g z v) (wA ad kd (addX g nx a1 a2 a3) (vp_updL z nx 0) (upd v 4 (nI nx + 1))) (tA kd) (nI nx) := by
  refine wr_of (by decide +kernel) (rfl) (Nat.le_of_ble_eq_true rfl) ?_
  intro p e s m args below meth c Q ls A hx hb hml htb hown hP hK hD hS hA hl hret
  have hl : lv_has ls 5 [(0, .ref (ad 15)), (1, .int a1), (2, .int a2), (3, .int a3)] := hl
  refine lv_aload_n hx hb d_X_add_0 rfl (lv_at hl 0 rfl) ?_
  refine va_get (D := D) (ci := 3) (v := .int (nI nx)) (C := R_X) (T := F_X) (N := 9) hx hb htb iw_X hown hK hP 15 rfl rfl 0 (by decide) (htb _ mw_124) (fun _ h9 => h9) (congrArg (fun x => some (Value.int x)) hnx) d_X_add_1 ?_
  refine lv_istore (lv' := [(4, .int (nI nx)), (0, .ref (ad 15)), (1, .int a1), (2, .int a2), (3, .int a3)]) hx hb d_X_add_4 hl (by decide) rfl (fun ls hl => ?_)
  refine lv_aload_n hx hb d_X_add_6 rfl (lv_at hl 1 rfl) ?_
  refine va_get (D := D) (ci := 3) (v := .ref (ad 16)) (C := R_X) (T := F_X) (N := 9) hx hb htb iw_X hown hK hP 15 rfl rfl 1 (by decide) (htb _ mw_126) (fun _ h9 => h9) rfl d_X_add_7 ?_
  refine lv_iload hx hb d_X_add_10 (lv_at hl 0 rfl) ?_
  refine lv_iload_n hx hb d_X_add_12 rfl (lv_at hl 2 rfl) ?_
  refine q_iast hx hb hK hP hD hS 16 12 rfl rfl nx (x := a1) (by omega) (by decide) d_X_add_13 (fun H locs hP hD hS => ?_)
  have hP : va_P D classes (wA ad kd (up g 16 nx a1) z v) H := hP
  have hD : va_D A (wA ad kd (up g 16 nx a1) z v) := hD
  refine lv_aload_n hx hb d_X_add_14 rfl (lv_at hl 1 rfl) ?_
  refine va_get (D := D) (ci := 3) (v := .ref (ad 17)) (C := R_X) (T := F_X) (N := 9) hx hb htb iw_X hown hK hP 15 rfl rfl 2 (by decide) (htb _ mw_128) (fun _ h9 => h9) rfl d_X_add_15 ?_
  refine lv_iload hx hb d_X_add_18 (lv_at hl 0 rfl) ?_
  refine lv_iload_n hx hb d_X_add_20 rfl (lv_at hl 3 rfl) ?_
  refine q_iast hx hb hK hP hD hS 17 13 rfl rfl nx (x := a2) (by omega) (by decide) d_X_add_21 (fun H locs hP hD hS => ?_)
  have hP : va_P D classes (wA ad kd (up (up g 16 nx a1) 17 nx a2) z v) H := hP
  have hD : va_D A (wA ad kd (up (up g 16 nx a1) 17 nx a2) z v) := hD
  refine lv_aload_n hx hb d_X_add_22 rfl (lv_at hl 1 rfl) ?_
  refine va_get (D := D) (ci := 3) (v := .ref (ad 18)) (C := R_X) (T := F_X) (N := 9) hx hb htb iw_X hown hK hP 15 rfl rfl 3 (by decide) (htb _ mw_130) (fun _ h9 => h9) rfl d_X_add_23 ?_
  refine lv_iload hx hb d_X_add_26 (lv_at hl 0 rfl) ?_
  refine lv_iload_n hx hb d_X_add_28 rfl (lv_at hl 4 rfl) ?_
  refine q_iast hx hb hK hP hD hS 18 14 rfl rfl nx (x := a3) (by omega) (by decide) d_X_add_29 (fun H locs hP hD hS => ?_)
  have hP : va_P D classes (wA ad kd (up (up (up g 16 nx a1) 17 nx a2) 18 nx a3) z v) H := hP
  have hD : va_D A (wA ad kd (up (up (up g 16 nx a1) 17 nx a2) 18 nx a3) z v) := hD
  refine lv_aload_n hx hb d_X_add_30 rfl (lv_at hl 1 rfl) ?_
  refine va_get (D := D) (ci := 3) (v := .ref (ad 19)) (C := R_X) (T := F_X) (N := 9) hx hb htb iw_X hown hK hP 15 rfl rfl 4 (by decide) (htb _ mw_132) (fun _ h9 => h9) rfl d_X_add_31 ?_
  refine lv_iload hx hb d_X_add_34 (lv_at hl 0 rfl) ?_
  refine lv_iconst (v := (-1)) hx hb d_X_add_36 (by decide) ?_
  refine q_iast hx hb hK hP hD hS 19 15 rfl rfl nx (x := (-1)) (by omega) (by decide) d_X_add_37 (fun H locs hP hD hS => ?_)
  have hP : va_P D classes (wA ad kd (up (up (up (up g 16 nx a1) 17 nx a2) 18 nx a3) 19 nx (-1)) z v) H := hP
  have hD : va_D A (wA ad kd (up (up (up (up g 16 nx a1) 17 nx a2) 18 nx a3) 19 nx (-1)) z v) := hD
  refine lv_aload_n hx hb d_X_add_38 rfl (lv_at hl 1 rfl) ?_
  refine va_get (D := D) (ci := 3) (v := .ref (ad 20)) (C := R_X) (T := F_X) (N := 9) hx hb htb iw_X hown hK hP 15 rfl rfl 5 (by decide) (htb _ mw_134) (fun _ h9 => h9) rfl d_X_add_39 ?_
  refine lv_iload hx hb d_X_add_42 (lv_at hl 0 rfl) ?_
  refine lv_lconst (v := 0) hx hb d_X_add_44 (by decide) ?_
  refine q_last hx hb hK hP hD hS 20 16 rfl rfl nx (x := 0) (by omega) (by decide) d_X_add_45 (fun H locs hP hD hS => ?_)
  have hP : va_P D classes (wA ad kd (up (up (up (up g 16 nx a1) 17 nx a2) 18 nx a3) 19 nx (-1)) (vp_updL z nx 0) v) H := hP
  have hD : va_D A (wA ad kd (up (up (up (up g 16 nx a1) 17 nx a2) 18 nx a3) 19 nx (-1)) (vp_updL z nx 0) v) := hD
  refine lv_aload_n hx hb d_X_add_46 rfl (lv_at hl 1 rfl) ?_
  refine va_get (D := D) (ci := 3) (v := .ref (ad 21)) (C := R_X) (T := F_X) (N := 9) hx hb htb iw_X hown hK hP 15 rfl rfl 6 (by decide) (htb _ mw_135) (fun _ h9 => h9) rfl d_X_add_47 ?_
  refine lv_iload hx hb d_X_add_50 (lv_at hl 0 rfl) ?_
  refine lv_iconst (v := (-1)) hx hb d_X_add_52 (by decide) ?_
  refine q_iast hx hb hK hP hD hS 21 17 rfl rfl nx (x := (-1)) (by omega) (by decide) d_X_add_53 (fun H locs hP hD hS => ?_)
  have hP : va_P D classes (wA ad kd (up (up (up (up (up g 16 nx a1) 17 nx a2) 18 nx a3) 19 nx (-1)) 21 nx (-1)) (vp_updL z nx 0) v) H := hP
  have hD : va_D A (wA ad kd (up (up (up (up (up g 16 nx a1) 17 nx a2) 18 nx a3) 19 nx (-1)) 21 nx (-1)) (vp_updL z nx 0) v) := hD
  refine lv_aload_n hx hb d_X_add_54 rfl (lv_at hl 1 rfl) ?_
  refine va_get (D := D) (ci := 3) (v := .ref (ad 22)) (C := R_X) (T := F_X) (N := 9) hx hb htb iw_X hown hK hP 15 rfl rfl 7 (by decide) (htb _ mw_137) (fun _ h9 => h9) rfl d_X_add_55 ?_
  refine lv_iload hx hb d_X_add_58 (lv_at hl 0 rfl) ?_
  refine lv_iconst (v := (-1)) hx hb d_X_add_60 (by decide) ?_
  refine q_iast hx hb hK hP hD hS 22 18 rfl rfl nx (x := (-1)) (by omega) (by decide) d_X_add_61 (fun H locs hP hD hS => ?_)
  have hP : va_P D classes (wA ad kd (up (up (up (up (up (up g 16 nx a1) 17 nx a2) 18 nx a3) 19 nx (-1)) 21 nx (-1)) 22 nx (-1)) (vp_updL z nx 0) v) H := hP
  have hD : va_D A (wA ad kd (up (up (up (up (up (up g 16 nx a1) 17 nx a2) 18 nx a3) 19 nx (-1)) 21 nx (-1)) 22 nx (-1)) (vp_updL z nx 0) v) := hD
  refine lv_aload_n hx hb d_X_add_62 rfl (lv_at hl 1 rfl) ?_
  refine va_get (D := D) (ci := 3) (v := .ref (ad 23)) (C := R_X) (T := F_X) (N := 9) hx hb htb iw_X hown hK hP 15 rfl rfl 8 (by decide) (htb _ mw_139) (fun _ h9 => h9) rfl d_X_add_63 ?_
  refine lv_iload hx hb d_X_add_66 (lv_at hl 0 rfl) ?_
  refine lv_iconst (v := (-1)) hx hb d_X_add_68 (by decide) ?_
  refine q_iast hx hb hK hP hD hS 23 19 rfl rfl nx (x := (-1)) (by omega) (by decide) d_X_add_69 (fun H locs hP hD hS => ?_)
  have hP : va_P D classes (wA ad kd (up (up (up (up (up (up (up g 16 nx a1) 17 nx a2) 18 nx a3) 19 nx (-1)) 21 nx (-1)) 22 nx (-1)) 23 nx (-1)) (vp_updL z nx 0) v) H := hP
  have hD : va_D A (wA ad kd (up (up (up (up (up (up (up g 16 nx a1) 17 nx a2) 18 nx a3) 19 nx (-1)) 21 nx (-1)) 22 nx (-1)) 23 nx (-1)) (vp_updL z nx 0) v) := hD
  refine lv_aload_n hx hb d_X_add_70 rfl (lv_at hl 1 rfl) ?_
  refine lv_dup hx hb d_X_add_71 rfl ?_
  refine va_get (D := D) (ci := 3) (v := .int (nI nx)) (C := R_X) (T := F_X) (N := 9) hx hb htb iw_X hown hK hP 15 rfl rfl 0 (by decide) (htb _ mw_124) (fun _ h9 => h9) (congrArg (fun x => some (Value.int x)) hnx) d_X_add_72 ?_
  refine lv_iconst (v := 1) hx hb d_X_add_75 (by decide) ?_
  refine lv_iadd hx hb d_X_add_76 ?_
  refine va_put (D := D) (ci := 3) (v := .int ((nI nx) + 1)) (ty := .int) (C := R_X) (T := F_X) (N := 9) hx hb htb iw_X t_X t_X_ok n_X hown hK hP hD hS 15 rfl rfl 0 (by decide) (htb _ mw_124) (fun _ h9 => h9) rfl (by decide +kernel) rfl rfl (Nat.le_of_ble_eq_true rfl) d_X_add_77 (fun H locs hP hD hS => ?_)
  have hP : va_P D classes (wA ad kd (up (up (up (up (up (up (up g 16 nx a1) 17 nx a2) 18 nx a3) 19 nx (-1)) 21 nx (-1)) 22 nx (-1)) 23 nx (-1)) (vp_updL z nx 0) (upd v 4 ((nI nx) + 1))) H := hP
  have hD : va_D A (wA ad kd (up (up (up (up (up (up (up g 16 nx a1) 17 nx a2) 18 nx a3) 19 nx (-1)) 21 nx (-1)) 22 nx (-1)) 23 nx (-1)) (vp_updL z nx 0) (upd v 4 ((nI nx) + 1))) := hD
  refine lv_iload hx hb d_X_add_80 (lv_at hl 0 rfl) ?_
  exact hret _ _ _ _ _ rfl hP hS d_X_add_82
set_option maxHeartbeats 4000000 in
set_option maxRecDepth 100000 in
theorem c_X_isOn (l : Launch) (D : va_G) (ad : Nat → Nat) (kd : Nat → ClassId) (g : Nat → Nat → Int32) (z : Nat → Int64) (v : Nat → Int32) (k : Nat) (hk : k < 60) (x : Int32) : RD l y_X_isOn (.code y_X_isOn b_X_isOn 3 (some .boolean) :: TB) ({ frames := 0, cells := 0, slots := 0, locals := 0 } : Room) [.ref (ad 15), .int (nI k), .int x] D classes (wA ad kd g z v) (tA kd) (bI (onX z k x)) := by
  refine rd_of (by decide +kernel) (bI_nar _) (Nat.le_of_ble_eq_true rfl) ?_
  intro p e s m args below meth c Q ls hx hb hml htb hown hP hK hl hret
  have hl : lv_has ls 3 [(0, .ref (ad 15)), (1, .int (nI k)), (2, .int x)] := hl
  refine lv_aload_n hx hb d_X_isOn_0 rfl (lv_at hl 0 rfl) ?_
  refine va_get (D := D) (ci := 3) (v := .ref (ad 20)) (C := R_X) (T := F_X) (N := 9) hx hb htb iw_X hown hK hP 15 rfl rfl 5 (by decide) (htb _ mw_134) (fun _ h9 => h9) rfl d_X_isOn_1 ?_
  refine lv_iload_n hx hb d_X_isOn_4 rfl (lv_at hl 1 rfl) ?_
  refine q_lald hx hb hK hP 20 16 rfl rfl k (by omega) (by decide) d_X_isOn_5 ?_
  refine lv_lconst (v := 1) hx hb d_X_isOn_6 (by decide) ?_
  refine lv_iload_n hx hb d_X_isOn_7 rfl (lv_at hl 2 rfl) ?_
  refine lv_lshl (v := ((1 : Int64) <<< ((x).toInt64 &&& 63))) hx hb d_X_isOn_8 rfl ?_
  refine lv_land hx hb d_X_isOn_9 ?_
  refine lv_lconst (v := 0) hx hb d_X_isOn_10 (by decide) ?_
  refine W.lcmp hx hb d_X_isOn_11 ?_
  refine lv_if_eq (tgt := 19) hx hb d_X_isOn_12 (by decide) (fun c1 => ?_) (fun c1 => ?_)
  · refine lv_iconst (v := 0) hx hb d_X_isOn_19 (by decide) ?_
    exact hret _ _ _ (by simp [onX, bitM, bI, c1]) d_X_isOn_20
  · refine lv_iconst (v := 1) hx hb d_X_isOn_15 (by decide) ?_
    refine lv_goto (tgt := 20) hx hb d_X_isOn_16 (by decide) ?_
    exact hret _ _ _ (by simp [onX, bitM, bI, c1]) d_X_isOn_20
set_option maxHeartbeats 4000000 in
set_option maxRecDepth 100000 in
theorem c_X_putOn (l : Launch) (D : va_G) (ad : Nat → Nat) (kd : Nat → ClassId) (g : Nat → Nat → Int32) (z : Nat → Int64) (v : Nat → Int32) (k : Nat) (hk : k < 60) (x : Int32) : WRv l y_X_putOn (.code y_X_putOn b_X_putOn 3 none :: TB) ({ frames := 0, cells := 0, slots := 0, locals := 0 } : Room) [.ref (ad 15), .int (nI k), .int x] D classes (wA ad kd g z v) (wA ad kd g (vp_updL z k (z k ||| bitM x)) v) (tA kd) := by
  refine wv_of (by decide +kernel) (Nat.le_of_ble_eq_true rfl) ?_
  intro p e s m args below meth c Q ls A hx hb hml htb hown hP hK hD hS hA hl hret
  have hl : lv_has ls 3 [(0, .ref (ad 15)), (1, .int (nI k)), (2, .int x)] := hl
  refine lv_aload_n hx hb d_X_putOn_0 rfl (lv_at hl 0 rfl) ?_
  refine va_get (D := D) (ci := 3) (v := .ref (ad 20)) (C := R_X) (T := F_X) (N := 9) hx hb htb iw_X hown hK hP 15 rfl rfl 5 (by decide) (htb _ mw_134) (fun _ h9 => h9) rfl d_X_putOn_1 ?_
  refine lv_iload_n hx hb d_X_putOn_4 rfl (lv_at hl 1 rfl) ?_
  refine lv_dup2_11 hx hb d_X_putOn_5 rfl rfl ?_
  refine q_lald hx hb hK hP 20 16 rfl rfl k (by omega) (by decide) d_X_putOn_6 ?_
  refine lv_lconst (v := 1) hx hb d_X_putOn_7 (by decide) ?_
  refine lv_iload_n hx hb d_X_putOn_8 rfl (lv_at hl 2 rfl) ?_
  refine lv_lshl (v := ((1 : Int64) <<< ((x).toInt64 &&& 63))) hx hb d_X_putOn_9 rfl ?_
  refine lv_lor hx hb d_X_putOn_10 ?_
  refine q_last hx hb hK hP hD hS 20 16 rfl rfl k (x := ((z k) ||| ((1 : Int64) <<< ((x).toInt64 &&& 63)))) (by omega) (by decide) d_X_putOn_11 (fun H locs hP hD hS => ?_)
  have hP : va_P D classes (wA ad kd g (vp_updL z k ((z k) ||| ((1 : Int64) <<< ((x).toInt64 &&& 63)))) v) H := hP
  have hD : va_D A (wA ad kd g (vp_updL z k ((z k) ||| ((1 : Int64) <<< ((x).toInt64 &&& 63)))) v) := hD
  exact hret _ _ _ _ hP hS d_X_putOn_12
set_option maxHeartbeats 4000000 in
set_option maxRecDepth 100000 in
theorem c_X_billsOf (l : Launch) (D : va_G) (ad : Nat → Nat) (kd : Nat → ClassId) (g : Nat → Nat → Int32) (z : Nat → Int64) (v : Nat → Int32) (k : Nat) (hk : k < 60) : RD l y_X_billsOf (.code y_X_billsOf b_X_billsOf 2 (some .int) :: TB) ({ frames := 1, cells := 0, slots := 0, locals := 21 } : Room) [.ref (ad 15), .int (nI k)] D classes (wA ad kd g z v) (tA kd) (nI (popc (z k))) := by
  refine rd_of (by decide +kernel) (rfl) (Nat.le_of_ble_eq_true rfl) ?_
  intro p e s m args below meth c Q ls hx hb hml htb hown hP hK hl hret
  have hl : lv_has ls 2 [(0, .ref (ad 15)), (1, .int (nI k))] := hl
  refine lv_aload_n hx hb d_X_billsOf_0 rfl (lv_at hl 0 rfl) ?_
  refine va_get (D := D) (ci := 3) (v := .ref (ad 20)) (C := R_X) (T := F_X) (N := 9) hx hb htb iw_X hown hK hP 15 rfl rfl 5 (by decide) (htb _ mw_134) (fun _ h9 => h9) rfl d_X_billsOf_1 ?_
  refine lv_iload_n hx hb d_X_billsOf_4 rfl (lv_at hl 1 rfl) ?_
  refine q_lald hx hb hK hP 20 16 rfl rfl k (by omega) (by decide) d_X_billsOf_5 ?_
  refine rdS (As := [.long (z k)]) (rest := []) ⟨hx, hb, hml, hown, htb⟩ (c_J_bitCount l D (wA ad kd g z v) (tA kd) (z k)) (va_cwS 1 htb (gS tb_good mw_197 mw_198 mw_37 mw_199) rfl rfl rfl (by decide +kernel) ⟨Nat.le_of_ble_eq_true rfl, Nat.le_of_ble_eq_true rfl⟩) hP hK rfl hl.1 rfl (lv_room (Nat.le_of_ble_eq_true rfl)) d_X_billsOf_6 ⟨Nat.zero_le _, Nat.zero_le _⟩ ?_
  exact hret _ _ _ (by simp [bI]) d_X_billsOf_9
set_option maxHeartbeats 4000000 in
set_option maxRecDepth 100000 in
theorem c_X_billAt (l : Launch) (D : va_G) (ad : Nat → Nat) (kd : Nat → ClassId) (g : Nat → Nat → Int32) (z : Nat → Int64) (v : Nat → Int32) (k : Nat) (hk : k < 60) (pl : Int32) : RD l y_X_billAt (.code y_X_billAt b_X_billAt 5 (some .int) :: TB) ({ frames := 1, cells := 0, slots := 0, locals := 22 } : Room) [.ref (ad 15), .int (nI k), .int pl] D classes (wA ad kd g z v) (tA kd) (pickN (fun b => onX z k (nI b)) pl 60) := by
  refine rd_of (by decide +kernel) (rfl) (Nat.le_of_ble_eq_true rfl) ?_
  intro p e s m args below meth c Q ls hx hb hml htb hown hP hK hl hret
  have hl : lv_has ls 5 [(0, .ref (ad 15)), (1, .int (nI k)), (2, .int pl)] := hl
  refine lv_iconst (v := 0) hx hb d_X_billAt_0 (by decide) ?_
  refine lv_istore_n (lv' := [(3, .int 0), (0, .ref (ad 15)), (1, .int (nI k)), (2, .int pl)]) hx hb d_X_billAt_1 rfl hl (by decide) rfl (fun ls hl => ?_)
  refine lv_iconst (v := 0) hx hb d_X_billAt_2 (by decide) ?_
  refine lv_istore (lv' := [(4, .int 0), (3, .int 0), (0, .ref (ad 15)), (1, .int (nI k)), (2, .int pl)]) hx hb d_X_billAt_3 hl (by decide) rfl (fun ls hl => ?_)
  have lp5 : ∀ (n : Nat) (i : Nat) (f : Nat), i ≤ 60 → 60 + 1 ≤ i + n → f = cntN (fun b => onX z k (nI b)) i → pickN (fun b => onX z k (nI b)) pl i = -1 → ∀ (ls : Array Slot), lv_has ls 5 [(0, .ref (ad 15)), (1, .int (nI k)), (2, .int pl), (3, .int (nI f)), (4, .int (nI i))] → W p l e ({ frames := 1, cells := 0, slots := 0, locals := 22 } : Room) s m args below meth c s.heap [] 0 0 Q (F0 m 5 ls []) := by
    intro n
    induction n with
    | zero => intro i f hi hm hf hp ls hl; exact absurd hm (by omega)
    | succ n ih =>
      intro i f hi hm hf hp ls hl
      refine lv_iload hx hb d_X_billAt_5 (lv_at hl 4 rfl) ?_
      refine lv_bipush (v := 60) hx hb d_X_billAt_7 (by decide) ?_
      refine q_icmp_ge (a := i) (b := 60) (tgt := 39) hx hb (by omega) (by omega) d_X_billAt_9 (by decide) (fun c1 => ?_) (fun c1 => ?_)
      · refine lv_iconst (v := (-1)) hx hb d_X_billAt_39 (by decide) ?_
        exact hret _ _ _ (by rw [show 60 = i by omega, hp]) d_X_billAt_40
      · refine lv_aload_n hx hb d_X_billAt_12 rfl (lv_at hl 0 rfl) ?_
        refine lv_iload_n hx hb d_X_billAt_13 rfl (lv_at hl 1 rfl) ?_
        refine lv_iload hx hb d_X_billAt_14 (lv_at hl 4 rfl) ?_
        refine rdV (As := [.int (nI k), .int (nI i)]) (rest := []) (b := ad 15) ⟨hx, hb, hml, hown, htb⟩ (c_X_isOn l D ad kd g z v k (by omega) (nI i)) (cwV (C := R_X) 2 htb (gV tb_good mw_533 mw_190 mw_191 mw_30 mw_192) rfl rfl rfl (by decide +kernel) ⟨Nat.le_of_ble_eq_true rfl, Nat.le_of_ble_eq_true rfl⟩) hP hK (va_recv hK hP (ci := 3) (q0 := 15) rfl rfl) rfl hl.1 rfl (lv_room (Nat.le_of_ble_eq_true rfl)) d_X_billAt_16 ⟨Nat.zero_le _, Nat.zero_le _⟩ ?_
        refine lv_if_eq (tgt := 33) hx hb d_X_billAt_19 (by decide) (fun c2 => ?_) (fun c2 => ?_)
        · replace c2 := bI_f c2
          refine lv_iinc (v := (nI (i + 1))) (lv' := [(4, .int (nI (i + 1))), (0, .ref (ad 15)), (1, .int (nI k)), (2, .int pl), (3, .int (nI f))]) hx hb d_X_billAt_33 hl (k := 4) rfl (q_inc _) (by decide) rfl (fun ls hl => ?_)
          refine lv_goto (tgt := 5) hx hb d_X_billAt_36 (by decide) ?_
          exact ih (i + 1) f (by omega) (by omega) (by rw [cntN_f (by simp [c1, c2]), hf]) (pickN_miss hp (by simp [c1, c2])) _ (lv_sub hl [1, 2, 3, 4, 0] rfl)
        · replace c2 := bI_t c2
          refine lv_iload_n hx hb d_X_billAt_22 rfl (lv_at hl 3 rfl) ?_
          refine lv_iload_n hx hb d_X_billAt_23 rfl (lv_at hl 2 rfl) ?_
          refine lv_icmp_ne (tgt := 30) hx hb d_X_billAt_24 (by decide) (fun c3 => ?_) (fun c3 => ?_)
          · refine lv_iinc (v := (nI (f + 1))) (lv' := [(3, .int (nI (f + 1))), (0, .ref (ad 15)), (1, .int (nI k)), (2, .int pl), (4, .int (nI i))]) hx hb d_X_billAt_30 hl (k := 3) rfl (q_inc _) (by decide) rfl (fun ls hl => ?_)
            refine lv_iinc (v := (nI (i + 1))) (lv' := [(4, .int (nI (i + 1))), (3, .int (nI (f + 1))), (0, .ref (ad 15)), (1, .int (nI k)), (2, .int pl)]) hx hb d_X_billAt_33 hl (k := 4) rfl (q_inc _) (by decide) rfl (fun ls hl => ?_)
            refine lv_goto (tgt := 5) hx hb d_X_billAt_36 (by decide) ?_
            exact ih (i + 1) (f + 1) (by omega) (by omega) (by rw [cntN_t (by simp [c1, c2, c3]), hf]) (pickN_pass hp (by rw [← hf]; assumption)) _ (lv_sub hl [2, 3, 4, 1, 0] rfl)
          · refine lv_iload hx hb d_X_billAt_27 (lv_at hl 4 rfl) ?_
            exact hret _ _ _ (by rw [pickN_hit (i := i) (by omega) hp (by simp [c1, c2, c3]) (by rw [← hf]; assumption) (by omega)]) d_X_billAt_29
  exact lp5 (60 + 1) 0 0 (Nat.zero_le _) (by omega) rfl rfl _ (lv_sub hl [2, 3, 4, 1, 0] rfl)
set_option maxHeartbeats 4000000 in
set_option maxRecDepth 100000 in
theorem c_X_hasLanded (l : Launch) (D : va_G) (ad : Nat → Nat) (kd : Nat → ClassId) (g : Nat → Nat → Int32) (z : Nat → Int64) (v : Nat → Int32) (k : Nat) (hk : k < 60) : RD l y_X_hasLanded (.code y_X_hasLanded b_X_hasLanded 2 (some .boolean) :: TB) ({ frames := 0, cells := 0, slots := 0, locals := 0 } : Room) [.ref (ad 15), .int (nI k)] D classes (wA ad kd g z v) (tA kd) (bI (lanX g k)) := by
  refine rd_of (by decide +kernel) (bI_nar _) (Nat.le_of_ble_eq_true rfl) ?_
  intro p e s m args below meth c Q ls hx hb hml htb hown hP hK hl hret
  have hl : lv_has ls 2 [(0, .ref (ad 15)), (1, .int (nI k))] := hl
  refine lv_aload_n hx hb d_X_hasLanded_0 rfl (lv_at hl 0 rfl) ?_
  refine va_get (D := D) (ci := 3) (v := .ref (ad 19)) (C := R_X) (T := F_X) (N := 9) hx hb htb iw_X hown hK hP 15 rfl rfl 4 (by decide) (htb _ mw_132) (fun _ h9 => h9) rfl d_X_hasLanded_1 ?_
  refine lv_iload_n hx hb d_X_hasLanded_4 rfl (lv_at hl 1 rfl) ?_
  refine q_iald hx hb hK hP 19 15 rfl rfl k (by omega) (by decide) d_X_hasLanded_5 ?_
  refine lv_iconst (v := (-1)) hx hb d_X_hasLanded_6 (by decide) ?_
  refine lv_icmp_eq (tgt := 14) hx hb d_X_hasLanded_7 (by decide) (fun c1 => ?_) (fun c1 => ?_)
  · refine lv_iconst (v := 0) hx hb d_X_hasLanded_14 (by decide) ?_
    exact hret _ _ _ (by simp [lanX, bI, c1]) d_X_hasLanded_15
  · refine lv_iconst (v := 1) hx hb d_X_hasLanded_10 (by decide) ?_
    refine lv_goto (tgt := 15) hx hb d_X_hasLanded_11 (by decide) ?_
    exact hret _ _ _ (by simp [lanX, bI, c1]) d_X_hasLanded_15
set_option maxHeartbeats 4000000 in
set_option maxRecDepth 100000 in
theorem c_X_isOrdered (l : Launch) (D : va_G) (ad : Nat → Nat) (kd : Nat → ClassId) (g : Nat → Nat → Int32) (z : Nat → Int64) (v : Nat → Int32) (k : Nat) (hk : k < 60) : RD l y_X_isOrdered (.code y_X_isOrdered b_X_isOrdered 2 (some .boolean) :: TB) ({ frames := 0, cells := 0, slots := 0, locals := 0 } : Room) [.ref (ad 15), .int (nI k)] D classes (wA ad kd g z v) (tA kd) (bI (ordX g k)) := by
  refine rd_of (by decide +kernel) (bI_nar _) (Nat.le_of_ble_eq_true rfl) ?_
  intro p e s m args below meth c Q ls hx hb hml htb hown hP hK hl hret
  have hl : lv_has ls 2 [(0, .ref (ad 15)), (1, .int (nI k))] := hl
  refine lv_aload_n hx hb d_X_isOrdered_0 rfl (lv_at hl 0 rfl) ?_
  refine va_get (D := D) (ci := 3) (v := .ref (ad 21)) (C := R_X) (T := F_X) (N := 9) hx hb htb iw_X hown hK hP 15 rfl rfl 6 (by decide) (htb _ mw_135) (fun _ h9 => h9) rfl d_X_isOrdered_1 ?_
  refine lv_iload_n hx hb d_X_isOrdered_4 rfl (lv_at hl 1 rfl) ?_
  refine q_iald hx hb hK hP 21 17 rfl rfl k (by omega) (by decide) d_X_isOrdered_5 ?_
  refine lv_iconst (v := (-1)) hx hb d_X_isOrdered_6 (by decide) ?_
  refine lv_icmp_eq (tgt := 14) hx hb d_X_isOrdered_7 (by decide) (fun c1 => ?_) (fun c1 => ?_)
  · refine lv_iconst (v := 0) hx hb d_X_isOrdered_14 (by decide) ?_
    exact hret _ _ _ (by simp [ordX, bI, c1]) d_X_isOrdered_15
  · refine lv_iconst (v := 1) hx hb d_X_isOrdered_10 (by decide) ?_
    refine lv_goto (tgt := 15) hx hb d_X_isOrdered_11 (by decide) ?_
    exact hret _ _ _ (by simp [ordX, bI, c1]) d_X_isOrdered_15
set_option maxHeartbeats 4000000 in
set_option maxRecDepth 100000 in
theorem c_X_isWaiting (l : Launch) (D : va_G) (ad : Nat → Nat) (kd : Nat → ClassId) (g : Nat → Nat → Int32) (z : Nat → Int64) (v : Nat → Int32) (k : Nat) (hk : k < 60) : RD l y_X_isWaiting (.code y_X_isWaiting b_X_isWaiting 2 (some .boolean) :: TB) ({ frames := 1, cells := 0, slots := 0, locals := 21 } : Room) [.ref (ad 15), .int (nI k)] D classes (wA ad kd g z v) (tA kd) (bI (waiX g z k)) := by
  refine rd_of (by decide +kernel) (bI_nar _) (Nat.le_of_ble_eq_true rfl) ?_
  intro p e s m args below meth c Q ls hx hb hml htb hown hP hK hl hret
  have hl : lv_has ls 2 [(0, .ref (ad 15)), (1, .int (nI k))] := hl
  refine lv_aload_n hx hb d_X_isWaiting_0 rfl (lv_at hl 0 rfl) ?_
  refine lv_iload_n hx hb d_X_isWaiting_1 rfl (lv_at hl 1 rfl) ?_
  refine rdV (As := [.int (nI k)]) (rest := []) (b := ad 15) ⟨hx, hb, hml, hown, htb⟩ (c_X_hasLanded l D ad kd g z v k (by omega)) (cwV (C := R_X) 1 htb (gV tb_good mw_251 mw_216 mw_217 mw_30 mw_218) rfl rfl rfl (by decide +kernel) ⟨Nat.le_of_ble_eq_true rfl, Nat.le_of_ble_eq_true rfl⟩) hP hK (va_recv hK hP (ci := 3) (q0 := 15) rfl rfl) rfl hl.1 rfl (lv_room (Nat.le_of_ble_eq_true rfl)) d_X_isWaiting_2 ⟨Nat.zero_le _, Nat.zero_le _⟩ ?_
  refine lv_if_eq (tgt := 23) hx hb d_X_isWaiting_5 (by decide) (fun c1 => ?_) (fun c1 => ?_)
  · replace c1 := bI_f c1
    refine lv_iconst (v := 0) hx hb d_X_isWaiting_23 (by decide) ?_
    exact hret _ _ _ (by simp [waiX, bI, c1]) d_X_isWaiting_24
  · replace c1 := bI_t c1
    refine lv_aload_n hx hb d_X_isWaiting_8 rfl (lv_at hl 0 rfl) ?_
    refine va_get (D := D) (ci := 3) (v := .ref (ad 20)) (C := R_X) (T := F_X) (N := 9) hx hb htb iw_X hown hK hP 15 rfl rfl 5 (by decide) (htb _ mw_134) (fun _ h9 => h9) rfl d_X_isWaiting_9 ?_
    refine lv_iload_n hx hb d_X_isWaiting_12 rfl (lv_at hl 1 rfl) ?_
    refine q_lald hx hb hK hP 20 16 rfl rfl k (by omega) (by decide) d_X_isWaiting_13 ?_
    refine lv_lconst (v := 0) hx hb d_X_isWaiting_14 (by decide) ?_
    refine W.lcmp hx hb d_X_isWaiting_15 ?_
    refine lv_if_ne (tgt := 23) hx hb d_X_isWaiting_16 (by decide) (fun c2 => ?_) (fun c2 => ?_)
    · refine lv_iconst (v := 0) hx hb d_X_isWaiting_23 (by decide) ?_
      exact hret _ _ _ (by simp [waiX, bI, c1, c2]) d_X_isWaiting_24
    · refine lv_iconst (v := 1) hx hb d_X_isWaiting_19 (by decide) ?_
      refine lv_goto (tgt := 24) hx hb d_X_isWaiting_20 (by decide) ?_
      exact hret _ _ _ (by simp [waiX, bI, c1, c2]) d_X_isWaiting_24
set_option maxHeartbeats 4000000 in
set_option maxRecDepth 100000 in
theorem c_X_boxesOn (l : Launch) (D : va_G) (ad : Nat → Nat) (kd : Nat → ClassId) (g : Nat → Nat → Int32) (z : Nat → Int64) (v : Nat → Int32) (nx : Nat) (hnx : v 4 = nI nx) (hx6 : nx ≤ 60) (x : Int32) : RD l y_X_boxesOn (.code y_X_boxesOn b_X_boxesOn 4 (some .int) :: TB) ({ frames := 1, cells := 0, slots := 0, locals := 22 } : Room) [.ref (ad 15), .int x] D classes (wA ad kd g z v) (tA kd) (nI (cntN (fun k => onX z k x) nx)) := by
  refine rd_of (by decide +kernel) (rfl) (Nat.le_of_ble_eq_true rfl) ?_
  intro p e s m args below meth c Q ls hx hb hml htb hown hP hK hl hret
  have hl : lv_has ls 4 [(0, .ref (ad 15)), (1, .int x)] := hl
  refine lv_iconst (v := 0) hx hb d_X_boxesOn_0 (by decide) ?_
  refine lv_istore_n (lv' := [(2, .int 0), (0, .ref (ad 15)), (1, .int x)]) hx hb d_X_boxesOn_1 rfl hl (by decide) rfl (fun ls hl => ?_)
  refine lv_iconst (v := 0) hx hb d_X_boxesOn_2 (by decide) ?_
  refine lv_istore_n (lv' := [(3, .int 0), (2, .int 0), (0, .ref (ad 15)), (1, .int x)]) hx hb d_X_boxesOn_3 rfl hl (by decide) rfl (fun ls hl => ?_)
  have lp4 : ∀ (n : Nat) (i : Nat) (f : Nat), i ≤ nx → nx + 1 ≤ i + n → f = cntN (fun k => onX z k x) i → ∀ (ls : Array Slot), lv_has ls 4 [(0, .ref (ad 15)), (1, .int x), (2, .int (nI f)), (3, .int (nI i))] → W p l e ({ frames := 1, cells := 0, slots := 0, locals := 22 } : Room) s m args below meth c s.heap [] 0 0 Q (F0 m 4 ls []) := by
    intro n
    induction n with
    | zero => intro i f hi hm hf ls hl; exact absurd hm (by omega)
    | succ n ih =>
      intro i f hi hm hf ls hl
      refine lv_iload_n hx hb d_X_boxesOn_4 rfl (lv_at hl 3 rfl) ?_
      refine lv_aload_n hx hb d_X_boxesOn_5 rfl (lv_at hl 0 rfl) ?_
      refine va_get (D := D) (ci := 3) (v := .int (nI nx)) (C := R_X) (T := F_X) (N := 9) hx hb htb iw_X hown hK hP 15 rfl rfl 0 (by decide) (htb _ mw_124) (fun _ h9 => h9) (congrArg (fun x => some (Value.int x)) hnx) d_X_boxesOn_6 ?_
      refine q_icmp_ge (a := i) (b := nx) (tgt := 30) hx hb (by omega) (by omega) d_X_boxesOn_9 (by decide) (fun c1 => ?_) (fun c1 => ?_)
      · refine lv_iload_n hx hb d_X_boxesOn_30 rfl (lv_at hl 2 rfl) ?_
        exact hret _ _ _ (by rw [show nx = i by omega, hf]) d_X_boxesOn_31
      · refine lv_aload_n hx hb d_X_boxesOn_12 rfl (lv_at hl 0 rfl) ?_
        refine lv_iload_n hx hb d_X_boxesOn_13 rfl (lv_at hl 3 rfl) ?_
        refine lv_iload_n hx hb d_X_boxesOn_14 rfl (lv_at hl 1 rfl) ?_
        refine rdV (As := [.int (nI i), .int x]) (rest := []) (b := ad 15) ⟨hx, hb, hml, hown, htb⟩ (c_X_isOn l D ad kd g z v i (by omega) x) (cwV (C := R_X) 2 htb (gV tb_good mw_533 mw_190 mw_191 mw_30 mw_192) rfl rfl rfl (by decide +kernel) ⟨Nat.le_of_ble_eq_true rfl, Nat.le_of_ble_eq_true rfl⟩) hP hK (va_recv hK hP (ci := 3) (q0 := 15) rfl rfl) rfl hl.1 rfl (lv_room (Nat.le_of_ble_eq_true rfl)) d_X_boxesOn_15 ⟨Nat.zero_le _, Nat.zero_le _⟩ ?_
        refine lv_if_eq (tgt := 24) hx hb d_X_boxesOn_18 (by decide) (fun c2 => ?_) (fun c2 => ?_)
        · replace c2 := bI_f c2
          refine lv_iinc (v := (nI (i + 1))) (lv' := [(3, .int (nI (i + 1))), (0, .ref (ad 15)), (1, .int x), (2, .int (nI f))]) hx hb d_X_boxesOn_24 hl (k := 3) rfl (q_inc _) (by decide) rfl (fun ls hl => ?_)
          refine lv_goto (tgt := 4) hx hb d_X_boxesOn_27 (by decide) ?_
          exact ih (i + 1) f (by omega) (by omega) (by rw [cntN_f (by simp [c1, c2]), hf]) _ (lv_sub hl [1, 2, 3, 0] rfl)
        · replace c2 := bI_t c2
          refine lv_iinc (v := (nI (f + 1))) (lv' := [(2, .int (nI (f + 1))), (0, .ref (ad 15)), (1, .int x), (3, .int (nI i))]) hx hb d_X_boxesOn_21 hl (k := 2) rfl (q_inc _) (by decide) rfl (fun ls hl => ?_)
          refine lv_iinc (v := (nI (i + 1))) (lv' := [(3, .int (nI (i + 1))), (2, .int (nI (f + 1))), (0, .ref (ad 15)), (1, .int x)]) hx hb d_X_boxesOn_24 hl (k := 3) rfl (q_inc _) (by decide) rfl (fun ls hl => ?_)
          refine lv_goto (tgt := 4) hx hb d_X_boxesOn_27 (by decide) ?_
          exact ih (i + 1) (f + 1) (by omega) (by omega) (by rw [cntN_t (by simp [c1, c2]), hf]) _ (lv_sub hl [2, 3, 1, 0] rfl)
  exact lp4 (nx + 1) 0 0 (Nat.zero_le _) (by omega) rfl _ (lv_sub hl [2, 3, 1, 0] rfl)
set_option maxHeartbeats 4000000 in
set_option maxRecDepth 100000 in
theorem c_X_landedOnes (l : Launch) (D : va_G) (ad : Nat → Nat) (kd : Nat → ClassId) (g : Nat → Nat → Int32) (z : Nat → Int64) (v : Nat → Int32) (nx : Nat) (hnx : v 4 = nI nx) (hx6 : nx ≤ 60) : RD l y_X_landedOnes (.code y_X_landedOnes b_X_landedOnes 3 (some .int) :: TB) ({ frames := 1, cells := 0, slots := 0, locals := 21 } : Room) [.ref (ad 15)] D classes (wA ad kd g z v) (tA kd) (nI (cntN (fun k => lanX g k) nx)) := by
  refine rd_of (by decide +kernel) (rfl) (Nat.le_of_ble_eq_true rfl) ?_
  intro p e s m args below meth c Q ls hx hb hml htb hown hP hK hl hret
  have hl : lv_has ls 3 [(0, .ref (ad 15))] := hl
  refine lv_iconst (v := 0) hx hb d_X_landedOnes_0 (by decide) ?_
  refine lv_istore_n (lv' := [(1, .int 0), (0, .ref (ad 15))]) hx hb d_X_landedOnes_1 rfl hl (by decide) rfl (fun ls hl => ?_)
  refine lv_iconst (v := 0) hx hb d_X_landedOnes_2 (by decide) ?_
  refine lv_istore_n (lv' := [(2, .int 0), (1, .int 0), (0, .ref (ad 15))]) hx hb d_X_landedOnes_3 rfl hl (by decide) rfl (fun ls hl => ?_)
  have lp4 : ∀ (n : Nat) (i : Nat) (f : Nat), i ≤ nx → nx + 1 ≤ i + n → f = cntN (fun k => lanX g k) i → ∀ (ls : Array Slot), lv_has ls 3 [(0, .ref (ad 15)), (1, .int (nI f)), (2, .int (nI i))] → W p l e ({ frames := 1, cells := 0, slots := 0, locals := 21 } : Room) s m args below meth c s.heap [] 0 0 Q (F0 m 4 ls []) := by
    intro n
    induction n with
    | zero => intro i f hi hm hf ls hl; exact absurd hm (by omega)
    | succ n ih =>
      intro i f hi hm hf ls hl
      refine lv_iload_n hx hb d_X_landedOnes_4 rfl (lv_at hl 2 rfl) ?_
      refine lv_aload_n hx hb d_X_landedOnes_5 rfl (lv_at hl 0 rfl) ?_
      refine va_get (D := D) (ci := 3) (v := .int (nI nx)) (C := R_X) (T := F_X) (N := 9) hx hb htb iw_X hown hK hP 15 rfl rfl 0 (by decide) (htb _ mw_124) (fun _ h9 => h9) (congrArg (fun x => some (Value.int x)) hnx) d_X_landedOnes_6 ?_
      refine q_icmp_ge (a := i) (b := nx) (tgt := 29) hx hb (by omega) (by omega) d_X_landedOnes_9 (by decide) (fun c1 => ?_) (fun c1 => ?_)
      · refine lv_iload_n hx hb d_X_landedOnes_29 rfl (lv_at hl 1 rfl) ?_
        exact hret _ _ _ (by rw [show nx = i by omega, hf]) d_X_landedOnes_30
      · refine lv_aload_n hx hb d_X_landedOnes_12 rfl (lv_at hl 0 rfl) ?_
        refine lv_iload_n hx hb d_X_landedOnes_13 rfl (lv_at hl 2 rfl) ?_
        refine rdV (As := [.int (nI i)]) (rest := []) (b := ad 15) ⟨hx, hb, hml, hown, htb⟩ (c_X_hasLanded l D ad kd g z v i (by omega)) (cwV (C := R_X) 1 htb (gV tb_good mw_251 mw_216 mw_217 mw_30 mw_218) rfl rfl rfl (by decide +kernel) ⟨Nat.le_of_ble_eq_true rfl, Nat.le_of_ble_eq_true rfl⟩) hP hK (va_recv hK hP (ci := 3) (q0 := 15) rfl rfl) rfl hl.1 rfl (lv_room (Nat.le_of_ble_eq_true rfl)) d_X_landedOnes_14 ⟨Nat.zero_le _, Nat.zero_le _⟩ ?_
        refine lv_if_eq (tgt := 23) hx hb d_X_landedOnes_17 (by decide) (fun c2 => ?_) (fun c2 => ?_)
        · replace c2 := bI_f c2
          refine lv_iinc (v := (nI (i + 1))) (lv' := [(2, .int (nI (i + 1))), (0, .ref (ad 15)), (1, .int (nI f))]) hx hb d_X_landedOnes_23 hl (k := 2) rfl (q_inc _) (by decide) rfl (fun ls hl => ?_)
          refine lv_goto (tgt := 4) hx hb d_X_landedOnes_26 (by decide) ?_
          exact ih (i + 1) f (by omega) (by omega) (by rw [cntN_f (by simp [c1, c2]), hf]) _ (lv_sub hl [1, 2, 0] rfl)
        · replace c2 := bI_t c2
          refine lv_iinc (v := (nI (f + 1))) (lv' := [(1, .int (nI (f + 1))), (0, .ref (ad 15)), (2, .int (nI i))]) hx hb d_X_landedOnes_20 hl (k := 1) rfl (q_inc _) (by decide) rfl (fun ls hl => ?_)
          refine lv_iinc (v := (nI (i + 1))) (lv' := [(2, .int (nI (i + 1))), (1, .int (nI (f + 1))), (0, .ref (ad 15))]) hx hb d_X_landedOnes_23 hl (k := 2) rfl (q_inc _) (by decide) rfl (fun ls hl => ?_)
          refine lv_goto (tgt := 4) hx hb d_X_landedOnes_26 (by decide) ?_
          exact ih (i + 1) (f + 1) (by omega) (by omega) (by rw [cntN_t (by simp [c1, c2]), hf]) _ (lv_sub hl [2, 1, 0] rfl)
  exact lp4 (nx + 1) 0 0 (Nat.zero_le _) (by omega) rfl _ (lv_sub hl [2, 1, 0] rfl)
set_option maxHeartbeats 4000000 in
set_option maxRecDepth 100000 in
theorem c_X_orderedOnes (l : Launch) (D : va_G) (ad : Nat → Nat) (kd : Nat → ClassId) (g : Nat → Nat → Int32) (z : Nat → Int64) (v : Nat → Int32) (nx : Nat) (hnx : v 4 = nI nx) (hx6 : nx ≤ 60) : RD l y_X_orderedOnes (.code y_X_orderedOnes b_X_orderedOnes 3 (some .int) :: TB) ({ frames := 1, cells := 0, slots := 0, locals := 21 } : Room) [.ref (ad 15)] D classes (wA ad kd g z v) (tA kd) (nI (cntN (fun k => ordX g k) nx)) := by
  refine rd_of (by decide +kernel) (rfl) (Nat.le_of_ble_eq_true rfl) ?_
  intro p e s m args below meth c Q ls hx hb hml htb hown hP hK hl hret
  have hl : lv_has ls 3 [(0, .ref (ad 15))] := hl
  refine lv_iconst (v := 0) hx hb d_X_orderedOnes_0 (by decide) ?_
  refine lv_istore_n (lv' := [(1, .int 0), (0, .ref (ad 15))]) hx hb d_X_orderedOnes_1 rfl hl (by decide) rfl (fun ls hl => ?_)
  refine lv_iconst (v := 0) hx hb d_X_orderedOnes_2 (by decide) ?_
  refine lv_istore_n (lv' := [(2, .int 0), (1, .int 0), (0, .ref (ad 15))]) hx hb d_X_orderedOnes_3 rfl hl (by decide) rfl (fun ls hl => ?_)
  have lp4 : ∀ (n : Nat) (i : Nat) (f : Nat), i ≤ nx → nx + 1 ≤ i + n → f = cntN (fun k => ordX g k) i → ∀ (ls : Array Slot), lv_has ls 3 [(0, .ref (ad 15)), (1, .int (nI f)), (2, .int (nI i))] → W p l e ({ frames := 1, cells := 0, slots := 0, locals := 21 } : Room) s m args below meth c s.heap [] 0 0 Q (F0 m 4 ls []) := by
    intro n
    induction n with
    | zero => intro i f hi hm hf ls hl; exact absurd hm (by omega)
    | succ n ih =>
      intro i f hi hm hf ls hl
      refine lv_iload_n hx hb d_X_orderedOnes_4 rfl (lv_at hl 2 rfl) ?_
      refine lv_aload_n hx hb d_X_orderedOnes_5 rfl (lv_at hl 0 rfl) ?_
      refine va_get (D := D) (ci := 3) (v := .int (nI nx)) (C := R_X) (T := F_X) (N := 9) hx hb htb iw_X hown hK hP 15 rfl rfl 0 (by decide) (htb _ mw_124) (fun _ h9 => h9) (congrArg (fun x => some (Value.int x)) hnx) d_X_orderedOnes_6 ?_
      refine q_icmp_ge (a := i) (b := nx) (tgt := 29) hx hb (by omega) (by omega) d_X_orderedOnes_9 (by decide) (fun c1 => ?_) (fun c1 => ?_)
      · refine lv_iload_n hx hb d_X_orderedOnes_29 rfl (lv_at hl 1 rfl) ?_
        exact hret _ _ _ (by rw [show nx = i by omega, hf]) d_X_orderedOnes_30
      · refine lv_aload_n hx hb d_X_orderedOnes_12 rfl (lv_at hl 0 rfl) ?_
        refine lv_iload_n hx hb d_X_orderedOnes_13 rfl (lv_at hl 2 rfl) ?_
        refine rdV (As := [.int (nI i)]) (rest := []) (b := ad 15) ⟨hx, hb, hml, hown, htb⟩ (c_X_isOrdered l D ad kd g z v i (by omega)) (cwV (C := R_X) 1 htb (gV tb_good mw_260 mw_204 mw_205 mw_30 mw_206) rfl rfl rfl (by decide +kernel) ⟨Nat.le_of_ble_eq_true rfl, Nat.le_of_ble_eq_true rfl⟩) hP hK (va_recv hK hP (ci := 3) (q0 := 15) rfl rfl) rfl hl.1 rfl (lv_room (Nat.le_of_ble_eq_true rfl)) d_X_orderedOnes_14 ⟨Nat.zero_le _, Nat.zero_le _⟩ ?_
        refine lv_if_eq (tgt := 23) hx hb d_X_orderedOnes_17 (by decide) (fun c2 => ?_) (fun c2 => ?_)
        · replace c2 := bI_f c2
          refine lv_iinc (v := (nI (i + 1))) (lv' := [(2, .int (nI (i + 1))), (0, .ref (ad 15)), (1, .int (nI f))]) hx hb d_X_orderedOnes_23 hl (k := 2) rfl (q_inc _) (by decide) rfl (fun ls hl => ?_)
          refine lv_goto (tgt := 4) hx hb d_X_orderedOnes_26 (by decide) ?_
          exact ih (i + 1) f (by omega) (by omega) (by rw [cntN_f (by simp [c1, c2]), hf]) _ (lv_sub hl [1, 2, 0] rfl)
        · replace c2 := bI_t c2
          refine lv_iinc (v := (nI (f + 1))) (lv' := [(1, .int (nI (f + 1))), (0, .ref (ad 15)), (2, .int (nI i))]) hx hb d_X_orderedOnes_20 hl (k := 1) rfl (q_inc _) (by decide) rfl (fun ls hl => ?_)
          refine lv_iinc (v := (nI (i + 1))) (lv' := [(2, .int (nI (i + 1))), (1, .int (nI (f + 1))), (0, .ref (ad 15))]) hx hb d_X_orderedOnes_23 hl (k := 2) rfl (q_inc _) (by decide) rfl (fun ls hl => ?_)
          refine lv_goto (tgt := 4) hx hb d_X_orderedOnes_26 (by decide) ?_
          exact ih (i + 1) (f + 1) (by omega) (by omega) (by rw [cntN_t (by simp [c1, c2]), hf]) _ (lv_sub hl [2, 1, 0] rfl)
  exact lp4 (nx + 1) 0 0 (Nat.zero_le _) (by omega) rfl _ (lv_sub hl [2, 1, 0] rfl)
set_option maxHeartbeats 4000000 in
set_option maxRecDepth 100000 in
theorem c_X_waitingOnes (l : Launch) (D : va_G) (ad : Nat → Nat) (kd : Nat → ClassId) (g : Nat → Nat → Int32) (z : Nat → Int64) (v : Nat → Int32) (nx : Nat) (hnx : v 4 = nI nx) (hx6 : nx ≤ 60) : RD l y_X_waitingOnes (.code y_X_waitingOnes b_X_waitingOnes 3 (some .int) :: TB) ({ frames := 2, cells := 0, slots := 0, locals := 42 } : Room) [.ref (ad 15)] D classes (wA ad kd g z v) (tA kd) (nI (cntN (fun k => waiX g z k) nx)) := by
  refine rd_of (by decide +kernel) (rfl) (Nat.le_of_ble_eq_true rfl) ?_
  intro p e s m args below meth c Q ls hx hb hml htb hown hP hK hl hret
  have hl : lv_has ls 3 [(0, .ref (ad 15))] := hl
  refine lv_iconst (v := 0) hx hb d_X_waitingOnes_0 (by decide) ?_
  refine lv_istore_n (lv' := [(1, .int 0), (0, .ref (ad 15))]) hx hb d_X_waitingOnes_1 rfl hl (by decide) rfl (fun ls hl => ?_)
  refine lv_iconst (v := 0) hx hb d_X_waitingOnes_2 (by decide) ?_
  refine lv_istore_n (lv' := [(2, .int 0), (1, .int 0), (0, .ref (ad 15))]) hx hb d_X_waitingOnes_3 rfl hl (by decide) rfl (fun ls hl => ?_)
  have lp4 : ∀ (n : Nat) (i : Nat) (f : Nat), i ≤ nx → nx + 1 ≤ i + n → f = cntN (fun k => waiX g z k) i → ∀ (ls : Array Slot), lv_has ls 3 [(0, .ref (ad 15)), (1, .int (nI f)), (2, .int (nI i))] → W p l e ({ frames := 2, cells := 0, slots := 0, locals := 42 } : Room) s m args below meth c s.heap [] 0 0 Q (F0 m 4 ls []) := by
    intro n
    induction n with
    | zero => intro i f hi hm hf ls hl; exact absurd hm (by omega)
    | succ n ih =>
      intro i f hi hm hf ls hl
      refine lv_iload_n hx hb d_X_waitingOnes_4 rfl (lv_at hl 2 rfl) ?_
      refine lv_aload_n hx hb d_X_waitingOnes_5 rfl (lv_at hl 0 rfl) ?_
      refine va_get (D := D) (ci := 3) (v := .int (nI nx)) (C := R_X) (T := F_X) (N := 9) hx hb htb iw_X hown hK hP 15 rfl rfl 0 (by decide) (htb _ mw_124) (fun _ h9 => h9) (congrArg (fun x => some (Value.int x)) hnx) d_X_waitingOnes_6 ?_
      refine q_icmp_ge (a := i) (b := nx) (tgt := 29) hx hb (by omega) (by omega) d_X_waitingOnes_9 (by decide) (fun c1 => ?_) (fun c1 => ?_)
      · refine lv_iload_n hx hb d_X_waitingOnes_29 rfl (lv_at hl 1 rfl) ?_
        exact hret _ _ _ (by rw [show nx = i by omega, hf]) d_X_waitingOnes_30
      · refine lv_aload_n hx hb d_X_waitingOnes_12 rfl (lv_at hl 0 rfl) ?_
        refine lv_iload_n hx hb d_X_waitingOnes_13 rfl (lv_at hl 2 rfl) ?_
        refine rdV (As := [.int (nI i)]) (rest := []) (b := ad 15) ⟨hx, hb, hml, hown, htb⟩ (c_X_isWaiting l D ad kd g z v i (by omega)) (cwV (C := R_X) 1 htb (gV tb_good mw_269 mw_248 mw_249 mw_30 mw_250) rfl rfl rfl (by decide +kernel) ⟨Nat.le_of_ble_eq_true rfl, Nat.le_of_ble_eq_true rfl⟩) hP hK (va_recv hK hP (ci := 3) (q0 := 15) rfl rfl) rfl hl.1 rfl (lv_room (Nat.le_of_ble_eq_true rfl)) d_X_waitingOnes_14 ⟨Nat.zero_le _, Nat.zero_le _⟩ ?_
        refine lv_if_eq (tgt := 23) hx hb d_X_waitingOnes_17 (by decide) (fun c2 => ?_) (fun c2 => ?_)
        · replace c2 := bI_f c2
          refine lv_iinc (v := (nI (i + 1))) (lv' := [(2, .int (nI (i + 1))), (0, .ref (ad 15)), (1, .int (nI f))]) hx hb d_X_waitingOnes_23 hl (k := 2) rfl (q_inc _) (by decide) rfl (fun ls hl => ?_)
          refine lv_goto (tgt := 4) hx hb d_X_waitingOnes_26 (by decide) ?_
          exact ih (i + 1) f (by omega) (by omega) (by rw [cntN_f (by simp [c1, c2]), hf]) _ (lv_sub hl [1, 2, 0] rfl)
        · replace c2 := bI_t c2
          refine lv_iinc (v := (nI (f + 1))) (lv' := [(1, .int (nI (f + 1))), (0, .ref (ad 15)), (2, .int (nI i))]) hx hb d_X_waitingOnes_20 hl (k := 1) rfl (q_inc _) (by decide) rfl (fun ls hl => ?_)
          refine lv_iinc (v := (nI (i + 1))) (lv' := [(2, .int (nI (i + 1))), (1, .int (nI (f + 1))), (0, .ref (ad 15))]) hx hb d_X_waitingOnes_23 hl (k := 2) rfl (q_inc _) (by decide) rfl (fun ls hl => ?_)
          refine lv_goto (tgt := 4) hx hb d_X_waitingOnes_26 (by decide) ?_
          exact ih (i + 1) (f + 1) (by omega) (by omega) (by rw [cntN_t (by simp [c1, c2]), hf]) _ (lv_sub hl [2, 1, 0] rfl)
  exact lp4 (nx + 1) 0 0 (Nat.zero_le _) (by omega) rfl _ (lv_sub hl [2, 1, 0] rfl)
set_option maxHeartbeats 4000000 in
set_option maxRecDepth 100000 in
theorem c_X_share (l : Launch) (D : va_G) (ad : Nat → Nat) (kd : Nat → ClassId) (g : Nat → Nat → Int32) (z : Nat → Int64) (v : Nat → Int32) (k : Nat) (hk : k < 60) (x : Int32) : RD l y_X_share (.code y_X_share b_X_share 5 (some .int) :: TB) ({ frames := 2, cells := 0, slots := 0, locals := 42 } : Room) [.ref (ad 15), .int (nI k), .int x] D classes (wA ad kd g z v) (tA kd) (shaX g z k x) := by
  refine rd_of (by decide +kernel) (rfl) (Nat.le_of_ble_eq_true rfl) ?_
  intro p e s m args below meth c Q ls hx hb hml htb hown hP hK hl hret
  have hl : lv_has ls 5 [(0, .ref (ad 15)), (1, .int (nI k)), (2, .int x)] := hl
  refine lv_aload_n hx hb d_X_share_0 rfl (lv_at hl 0 rfl) ?_
  refine lv_iload_n hx hb d_X_share_1 rfl (lv_at hl 1 rfl) ?_
  refine rdV (As := [.int (nI k)]) (rest := []) (b := ad 15) ⟨hx, hb, hml, hown, htb⟩ (c_X_billsOf l D ad kd g z v k (by omega)) (cwV (C := R_X) 1 htb (gV tb_good mw_538 mw_194 mw_195 mw_30 mw_196) rfl rfl rfl (by decide +kernel) ⟨Nat.le_of_ble_eq_true rfl, Nat.le_of_ble_eq_true rfl⟩) hP hK (va_recv hK hP (ci := 3) (q0 := 15) rfl rfl) rfl hl.1 rfl (lv_room (Nat.le_of_ble_eq_true rfl)) d_X_share_2 ⟨Nat.zero_le _, Nat.zero_le _⟩ ?_
  refine lv_istore_n (lv' := [(3, .int (nI (popc (z k)))), (0, .ref (ad 15)), (1, .int (nI k)), (2, .int x)]) hx hb d_X_share_5 rfl hl (by decide) rfl (fun ls hl => ?_)
  refine lv_iload_n hx hb d_X_share_6 rfl (lv_at hl 0 rfl) ?_
  refine lv_if_ne (tgt := 12) hx hb d_X_share_7 (by decide) (fun c1 => ?_) (fun c1 => ?_)
  · refine lv_aload_n hx hb d_X_share_12 rfl (lv_at hl 1 rfl) ?_
    refine va_get (D := D) (ci := 3) (v := .ref (ad 20)) (C := R_X) (T := F_X) (N := 9) hx hb htb iw_X hown hK hP 15 rfl rfl 5 (by decide) (htb _ mw_134) (fun _ h9 => h9) rfl d_X_share_13 ?_
    refine lv_iload_n hx hb d_X_share_16 rfl (lv_at hl 2 rfl) ?_
    refine q_lald hx hb hK hP 20 16 rfl rfl k (by omega) (by decide) d_X_share_17 ?_
    refine lv_lconst (v := 1) hx hb d_X_share_18 (by decide) ?_
    refine lv_iload_n hx hb d_X_share_19 rfl (lv_at hl 3 rfl) ?_
    refine lv_lshl (v := ((1 : Int64) <<< ((x).toInt64 &&& 63))) hx hb d_X_share_20 rfl ?_
    refine lv_lconst (v := 1) hx hb d_X_share_21 (by decide) ?_
    refine lv_lsub hx hb d_X_share_22 ?_
    refine lv_land hx hb d_X_share_23 ?_
    refine rdS (As := [.long ((z k) &&& (((1 : Int64) <<< ((x).toInt64 &&& 63)) - 1))]) (rest := []) ⟨hx, hb, hml, hown, htb⟩ (c_J_bitCount l D (wA ad kd g z v) (tA kd) ((z k) &&& (((1 : Int64) <<< ((x).toInt64 &&& 63)) - 1))) (va_cwS 1 htb (gS tb_good mw_197 mw_198 mw_37 mw_199) rfl rfl rfl (by decide +kernel) ⟨Nat.le_of_ble_eq_true rfl, Nat.le_of_ble_eq_true rfl⟩) hP hK rfl hl.1 rfl (lv_room (Nat.le_of_ble_eq_true rfl)) d_X_share_24 ⟨Nat.zero_le _, Nat.zero_le _⟩ ?_
    refine lv_istore (lv' := [(4, .int (nI (popc ((z k) &&& (((1 : Int64) <<< ((x).toInt64 &&& 63)) - 1))))), (3, .int (nI (popc (z k)))), (0, .ref (ad 15)), (1, .int (nI k)), (2, .int x)]) hx hb d_X_share_27 hl (by decide) rfl (fun ls hl => ?_)
    refine lv_aload_n hx hb d_X_share_29 rfl (lv_at hl 2 rfl) ?_
    refine va_get (D := D) (ci := 3) (v := .ref (ad 19)) (C := R_X) (T := F_X) (N := 9) hx hb htb iw_X hown hK hP 15 rfl rfl 4 (by decide) (htb _ mw_132) (fun _ h9 => h9) rfl d_X_share_30 ?_
    refine lv_iload_n hx hb d_X_share_33 rfl (lv_at hl 3 rfl) ?_
    refine q_iald hx hb hK hP 19 15 rfl rfl k (by omega) (by decide) d_X_share_34 ?_
    refine lv_iload_n hx hb d_X_share_35 rfl (lv_at hl 1 rfl) ?_
    refine lv_idiv hx hb d_X_share_36 (by assumption) ?_
    refine lv_iload hx hb d_X_share_37 (lv_at hl 0 rfl) ?_
    refine lv_aload_n hx hb d_X_share_39 rfl (lv_at hl 2 rfl) ?_
    refine va_get (D := D) (ci := 3) (v := .ref (ad 19)) (C := R_X) (T := F_X) (N := 9) hx hb htb iw_X hown hK hP 15 rfl rfl 4 (by decide) (htb _ mw_132) (fun _ h9 => h9) rfl d_X_share_40 ?_
    refine lv_iload_n hx hb d_X_share_43 rfl (lv_at hl 3 rfl) ?_
    refine q_iald hx hb hK hP 19 15 rfl rfl k (by omega) (by decide) d_X_share_44 ?_
    refine lv_iload_n hx hb d_X_share_45 rfl (lv_at hl 1 rfl) ?_
    refine lv_irem hx hb d_X_share_46 (by assumption) ?_
    refine lv_icmp_ge (tgt := 54) hx hb d_X_share_47 (by decide) (fun c2 => ?_) (fun c2 => ?_)
    · refine lv_iconst (v := 0) hx hb d_X_share_54 (by decide) ?_
      refine lv_iadd hx hb d_X_share_55 ?_
      exact hret _ _ _ (by simp [shaX, bitM, bI, c1, c2]) d_X_share_56
    · refine lv_iconst (v := 1) hx hb d_X_share_50 (by decide) ?_
      refine lv_goto (tgt := 55) hx hb d_X_share_51 (by decide) ?_
      refine lv_iadd hx hb d_X_share_55 ?_
      exact hret _ _ _ (by simp [shaX, bitM, bI, c1, c2]) d_X_share_56
  · refine lv_iconst (v := 0) hx hb d_X_share_10 (by decide) ?_
    exact hret _ _ _ (by simp [shaX, bitM, bI, c1]) d_X_share_11
set_option maxHeartbeats 4000000 in
set_option maxRecDepth 100000 in
theorem c_X_landedOf (l : Launch) (D : va_G) (ad : Nat → Nat) (kd : Nat → ClassId) (g : Nat → Nat → Int32) (z : Nat → Int64) (v : Nat → Int32) (nx : Nat) (hnx : v 4 = nI nx) (hx6 : nx ≤ 60) (x : Int32) : RD l y_X_landedOf (.code y_X_landedOf b_X_landedOf 4 (some .int) :: TB) ({ frames := 3, cells := 0, slots := 0, locals := 66 } : Room) [.ref (ad 15), .int x] D classes (wA ad kd g z v) (tA kd) (lnoX g z nx x) := by
  refine rd_of (by decide +kernel) (rfl) (Nat.le_of_ble_eq_true rfl) ?_
  intro p e s m args below meth c Q ls hx hb hml htb hown hP hK hl hret
  have hl : lv_has ls 4 [(0, .ref (ad 15)), (1, .int x)] := hl
  refine lv_iconst (v := 0) hx hb d_X_landedOf_0 (by decide) ?_
  refine lv_istore_n (lv' := [(2, .int 0), (0, .ref (ad 15)), (1, .int x)]) hx hb d_X_landedOf_1 rfl hl (by decide) rfl (fun ls hl => ?_)
  refine lv_iconst (v := 0) hx hb d_X_landedOf_2 (by decide) ?_
  refine lv_istore_n (lv' := [(3, .int 0), (2, .int 0), (0, .ref (ad 15)), (1, .int x)]) hx hb d_X_landedOf_3 rfl hl (by decide) rfl (fun ls hl => ?_)
  have lp4 : ∀ (n : Nat) (i : Nat) (sm : Int32), i ≤ nx → nx + 1 ≤ i + n → sm = sumN (fun k => if onX z k x = true then (if lanX g k = true then shaX g z k x else 0) else 0) i → ∀ (ls : Array Slot), lv_has ls 4 [(0, .ref (ad 15)), (1, .int x), (2, .int sm), (3, .int (nI i))] → W p l e ({ frames := 3, cells := 0, slots := 0, locals := 66 } : Room) s m args below meth c s.heap [] 0 0 Q (F0 m 4 ls []) := by
    intro n
    induction n with
    | zero => intro i sm hi hm hf ls hl; exact absurd hm (by omega)
    | succ n ih =>
      intro i sm hi hm hf ls hl
      refine lv_iload_n hx hb d_X_landedOf_4 rfl (lv_at hl 3 rfl) ?_
      refine lv_aload_n hx hb d_X_landedOf_5 rfl (lv_at hl 0 rfl) ?_
      refine va_get (D := D) (ci := 3) (v := .int (nI nx)) (C := R_X) (T := F_X) (N := 9) hx hb htb iw_X hown hK hP 15 rfl rfl 0 (by decide) (htb _ mw_124) (fun _ h9 => h9) (congrArg (fun x => some (Value.int x)) hnx) d_X_landedOf_6 ?_
      refine q_icmp_ge (a := i) (b := nx) (tgt := 44) hx hb (by omega) (by omega) d_X_landedOf_9 (by decide) (fun c1 => ?_) (fun c1 => ?_)
      · refine lv_iload_n hx hb d_X_landedOf_44 rfl (lv_at hl 2 rfl) ?_
        exact hret _ _ _ (by show sm = sumN (fun k => if onX z k x = true then (if lanX g k = true then shaX g z k x else 0) else 0) nx; rw [show nx = i by omega, hf]) d_X_landedOf_45
      · refine lv_aload_n hx hb d_X_landedOf_12 rfl (lv_at hl 0 rfl) ?_
        refine lv_iload_n hx hb d_X_landedOf_13 rfl (lv_at hl 3 rfl) ?_
        refine lv_iload_n hx hb d_X_landedOf_14 rfl (lv_at hl 1 rfl) ?_
        refine rdV (As := [.int (nI i), .int x]) (rest := []) (b := ad 15) ⟨hx, hb, hml, hown, htb⟩ (c_X_isOn l D ad kd g z v i (by omega) x) (cwV (C := R_X) 2 htb (gV tb_good mw_533 mw_190 mw_191 mw_30 mw_192) rfl rfl rfl (by decide +kernel) ⟨Nat.le_of_ble_eq_true rfl, Nat.le_of_ble_eq_true rfl⟩) hP hK (va_recv hK hP (ci := 3) (q0 := 15) rfl rfl) rfl hl.1 rfl (lv_room (Nat.le_of_ble_eq_true rfl)) d_X_landedOf_15 ⟨Nat.zero_le _, Nat.zero_le _⟩ ?_
        refine lv_if_eq (tgt := 38) hx hb d_X_landedOf_18 (by decide) (fun c2 => ?_) (fun c2 => ?_)
        · replace c2 := bI_f c2
          refine lv_iinc (v := (nI (i + 1))) (lv' := [(3, .int (nI (i + 1))), (0, .ref (ad 15)), (1, .int x), (2, .int sm)]) hx hb d_X_landedOf_38 hl (k := 3) rfl (q_inc _) (by decide) rfl (fun ls hl => ?_)
          refine lv_goto (tgt := 4) hx hb d_X_landedOf_41 (by decide) ?_
          exact ih (i + 1) sm (by omega) (by omega) (by show sm = sumN (fun k => if onX z k x = true then (if lanX g k = true then shaX g z k x else 0) else 0) i + _; rw [← hf]; simp [c1, c2]) _ (lv_sub hl [1, 2, 3, 0] rfl)
        · replace c2 := bI_t c2
          refine lv_aload_n hx hb d_X_landedOf_21 rfl (lv_at hl 0 rfl) ?_
          refine lv_iload_n hx hb d_X_landedOf_22 rfl (lv_at hl 3 rfl) ?_
          refine rdV (As := [.int (nI i)]) (rest := []) (b := ad 15) ⟨hx, hb, hml, hown, htb⟩ (c_X_hasLanded l D ad kd g z v i (by omega)) (cwV (C := R_X) 1 htb (gV tb_good mw_251 mw_216 mw_217 mw_30 mw_218) rfl rfl rfl (by decide +kernel) ⟨Nat.le_of_ble_eq_true rfl, Nat.le_of_ble_eq_true rfl⟩) hP hK (va_recv hK hP (ci := 3) (q0 := 15) rfl rfl) rfl hl.1 rfl (lv_room (Nat.le_of_ble_eq_true rfl)) d_X_landedOf_23 ⟨Nat.zero_le _, Nat.zero_le _⟩ ?_
          refine lv_if_eq (tgt := 38) hx hb d_X_landedOf_26 (by decide) (fun c3 => ?_) (fun c3 => ?_)
          · replace c3 := bI_f c3
            refine lv_iinc (v := (nI (i + 1))) (lv' := [(3, .int (nI (i + 1))), (0, .ref (ad 15)), (1, .int x), (2, .int sm)]) hx hb d_X_landedOf_38 hl (k := 3) rfl (q_inc _) (by decide) rfl (fun ls hl => ?_)
            refine lv_goto (tgt := 4) hx hb d_X_landedOf_41 (by decide) ?_
            exact ih (i + 1) sm (by omega) (by omega) (by show sm = sumN (fun k => if onX z k x = true then (if lanX g k = true then shaX g z k x else 0) else 0) i + _; rw [← hf]; simp [c1, c2, c3]) _ (lv_sub hl [1, 2, 3, 0] rfl)
          · replace c3 := bI_t c3
            refine lv_iload_n hx hb d_X_landedOf_29 rfl (lv_at hl 2 rfl) ?_
            refine lv_aload_n hx hb d_X_landedOf_30 rfl (lv_at hl 0 rfl) ?_
            refine lv_iload_n hx hb d_X_landedOf_31 rfl (lv_at hl 3 rfl) ?_
            refine lv_iload_n hx hb d_X_landedOf_32 rfl (lv_at hl 1 rfl) ?_
            refine rdV (As := [.int (nI i), .int x]) (rest := [.int sm]) (b := ad 15) ⟨hx, hb, hml, hown, htb⟩ (c_X_share l D ad kd g z v i (by omega) x) (cwV (C := R_X) 2 htb (gV tb_good mw_534 mw_535 mw_536 mw_30 mw_537) rfl rfl rfl (by decide +kernel) ⟨Nat.le_of_ble_eq_true rfl, Nat.le_of_ble_eq_true rfl⟩) hP hK (va_recv hK hP (ci := 3) (q0 := 15) rfl rfl) rfl hl.1 rfl (lv_room (Nat.le_of_ble_eq_true rfl)) d_X_landedOf_33 ⟨Nat.zero_le _, Nat.zero_le _⟩ ?_
            refine lv_iadd hx hb d_X_landedOf_36 ?_
            refine lv_istore_n (lv' := [(2, .int (sm + (shaX g z i x))), (0, .ref (ad 15)), (1, .int x), (3, .int (nI i))]) hx hb d_X_landedOf_37 rfl hl (by decide) rfl (fun ls hl => ?_)
            refine lv_iinc (v := (nI (i + 1))) (lv' := [(3, .int (nI (i + 1))), (2, .int (sm + (shaX g z i x))), (0, .ref (ad 15)), (1, .int x)]) hx hb d_X_landedOf_38 hl (k := 3) rfl (q_inc _) (by decide) rfl (fun ls hl => ?_)
            refine lv_goto (tgt := 4) hx hb d_X_landedOf_41 (by decide) ?_
            exact ih (i + 1) (sm + (shaX g z i x)) (by omega) (by omega) (by show (sm + (shaX g z i x)) = sumN (fun k => if onX z k x = true then (if lanX g k = true then shaX g z k x else 0) else 0) i + _; rw [← hf]; simp [c1, c2, c3]) _ (lv_sub hl [2, 3, 1, 0] rfl)
  exact lp4 (nx + 1) 0 0 (Nat.zero_le _) (by omega) rfl _ (lv_sub hl [2, 3, 1, 0] rfl)
set_option maxHeartbeats 4000000 in
set_option maxRecDepth 100000 in
theorem c_X_first (l : Launch) (D : va_G) (ad : Nat → Nat) (kd : Nat → ClassId) (g : Nat → Nat → Int32) (z : Nat → Int64) (v : Nat → Int32) (nx : Nat) (hnx : v 4 = nI nx) (hx6 : nx ≤ 60) (k : Nat) (hk : k < 60) : RD l y_X_first (.code y_X_first b_X_first 4 (some .int) :: TB) ({ frames := 1, cells := 0, slots := 0, locals := 21 } : Room) [.ref (ad 15), .int (nI k)] D classes (wA ad kd g z v) (tA kd) (nI (firL g nx 60 k)) := by
  refine rd_of (by decide +kernel) (rfl) (Nat.le_of_ble_eq_true rfl) ?_
  intro p e s m args below meth c Q ls hx hb hml htb hown hP hK hl hret
  have hl : lv_has ls 4 [(0, .ref (ad 15)), (1, .int (nI k))] := hl
  refine lv_iload_n hx hb d_X_first_0 rfl (lv_at hl 1 rfl) ?_
  refine lv_istore_n (lv' := [(2, .int (nI k)), (0, .ref (ad 15)), (1, .int (nI k))]) hx hb d_X_first_1 rfl hl (by decide) rfl (fun ls hl => ?_)
  refine lv_iconst (v := 0) hx hb d_X_first_2 (by decide) ?_
  refine lv_istore_n (lv' := [(3, .int 0), (2, .int (nI k)), (0, .ref (ad 15)), (1, .int (nI k))]) hx hb d_X_first_3 rfl hl (by decide) rfl (fun ls hl => ?_)
  have lp4 : ∀ (n : Nat) (i f : Nat), i ≤ 60 → 61 ≤ i + n → f < 60 → firL g nx (60 - i) f = firL g nx 60 k → ∀ (ls : Array Slot), lv_has ls 4 [(0, .ref (ad 15)), (2, .int (nI f)), (3, .int (nI i))] → W p l e ({ frames := 1, cells := 0, slots := 0, locals := 21 } : Room) s m args below meth c s.heap [] 0 0 Q (F0 m 4 ls []) := by
    intro n
    induction n with
    | zero => intro i f hi hm hf6 hf ls hl; exact absurd hm (by omega)
    | succ n ih =>
      intro i f hi hm hf6 hf ls hl
      refine lv_iload_n hx hb d_X_first_4 rfl (lv_at hl 2 rfl) ?_
      refine lv_bipush (v := 60) hx hb d_X_first_5 (by decide) ?_
      refine q_icmp_ge (a := i) (b := 60) (tgt := 36) hx hb (by omega) (by omega) d_X_first_7 (by decide) (fun c1 => ?_) (fun c1 => ?_)
      · refine lv_iload_n hx hb d_X_first_36 rfl (lv_at hl 1 rfl) ?_
        exact hret _ _ _ (by rw [← hf, show 60 - i = 0 by omega]; rfl) d_X_first_37
      · refine lv_aload_n hx hb d_X_first_10 rfl (lv_at hl 0 rfl) ?_
        refine lv_aload_n hx hb d_X_first_11 rfl (lv_at hl 0 rfl) ?_
        refine va_get (D := D) (ci := 3) (v := .ref (ad 23)) (C := R_X) (T := F_X) (N := 9) hx hb htb iw_X hown hK hP 15 rfl rfl 8 (by decide) (htb _ mw_139) (fun _ h9 => h9) rfl d_X_first_12 ?_
        refine lv_iload_n hx hb d_X_first_15 rfl (lv_at hl 1 rfl) ?_
        refine q_iald hx hb hK hP 23 19 rfl rfl f (by omega) (by decide) d_X_first_16 ?_
        refine rdV (As := [.int (g 23 f)]) (rest := []) (b := ad 15) ⟨hx, hb, hml, hown, htb⟩ (c_X_has l D ad kd g z v nx hnx hx6 (g 23 f)) (cwV (C := R_X) 1 htb (gV tb_good mw_242 mw_182 mw_183 mw_30 mw_184) rfl rfl rfl (by decide +kernel) ⟨Nat.le_of_ble_eq_true rfl, Nat.le_of_ble_eq_true rfl⟩) hP hK (va_recv hK hP (ci := 3) (q0 := 15) rfl rfl) rfl hl.1 rfl (lv_room (Nat.le_of_ble_eq_true rfl)) d_X_first_17 ⟨Nat.zero_le _, Nat.zero_le _⟩ ?_
        refine lv_if_eq (tgt := 36) hx hb d_X_first_20 (by decide) (fun c2 => ?_) (fun c2 => ?_)
        · replace c2 := bI_f c2
          refine lv_iload_n hx hb d_X_first_36 rfl (lv_at hl 1 rfl) ?_
          exact hret _ _ _ (by rw [← hf, show 60 - i = (60 - (i + 1)) + 1 by omega]; show _ = nI (if inN nx (g 23 f) = true then firL g nx (60 - (i + 1)) (ix (g 23 f)) else f); rw [if_neg (by rw [c2]; decide)]) d_X_first_37
        · replace c2 := bI_t c2
          obtain ⟨q, hq, eq⟩ := inN_ix c2 (by omega)
          refine lv_aload_n hx hb d_X_first_23 rfl (lv_at hl 0 rfl) ?_
          refine va_get (D := D) (ci := 3) (v := .ref (ad 23)) (C := R_X) (T := F_X) (N := 9) hx hb htb iw_X hown hK hP 15 rfl rfl 8 (by decide) (htb _ mw_139) (fun _ h9 => h9) rfl d_X_first_24 ?_
          refine lv_iload_n hx hb d_X_first_27 rfl (lv_at hl 1 rfl) ?_
          refine q_iald hx hb hK hP 23 19 rfl rfl f (by omega) (by decide) d_X_first_28 ?_
          refine W.eq (congrArg (fun z => F0 m 29 ls (.int z :: [])) (show (g 23 f) = (nI q) from eq)) ?_
          refine lv_istore_n (lv' := [(2, .int (nI q)), (0, .ref (ad 15)), (3, .int (nI i))]) hx hb d_X_first_29 rfl hl (by decide) rfl (fun ls hl => ?_)
          refine lv_iinc (v := (nI (i + 1))) (lv' := [(3, .int (nI (i + 1))), (2, .int (nI q)), (0, .ref (ad 15))]) hx hb d_X_first_30 hl (k := 2) rfl (q_inc _) (by decide) rfl (fun ls hl => ?_)
          refine lv_goto (tgt := 4) hx hb d_X_first_33 (by decide) ?_
          exact ih (i + 1) q (by omega) (by omega) (by omega) (by rw [← hf, show 60 - i = (60 - (i + 1)) + 1 by omega]; show _ = (if inN nx (g 23 f) = true then firL g nx (60 - (i + 1)) (ix (g 23 f)) else f); rw [if_pos c2, eq, ix_nI (by omega)]) _ (lv_sub hl [2, 1, 0] rfl)
  exact lp4 61 0 k (by omega) (by omega) hk rfl _ (lv_sub hl [2, 1, 0] rfl)
set_option maxHeartbeats 4000000 in
set_option maxRecDepth 100000 in
theorem c_X_weightSoFar (l : Launch) (D : va_G) (ad : Nat → Nat) (kd : Nat → ClassId) (g : Nat → Nat → Int32) (z : Nat → Int64) (v : Nat → Int32) (nx : Nat) (hnx : v 4 = nI nx) (hx6 : nx ≤ 60) (k : Nat) (hk : k < 60) : RD l y_X_weightSoFar (.code y_X_weightSoFar b_X_weightSoFar 5 (some .int) :: TB) ({ frames := 1, cells := 0, slots := 0, locals := 21 } : Room) [.ref (ad 15), .int (nI k)] D classes (wA ad kd g z v) (tA kd) (wsfL g nx 60 k (g 18 k)) := by
  refine rd_of (by decide +kernel) (rfl) (Nat.le_of_ble_eq_true rfl) ?_
  intro p e s m args below meth c Q ls hx hb hml htb hown hP hK hl hret
  have hl : lv_has ls 5 [(0, .ref (ad 15)), (1, .int (nI k))] := hl
  refine lv_iload_n hx hb d_X_weightSoFar_0 rfl (lv_at hl 1 rfl) ?_
  refine lv_istore_n (lv' := [(2, .int (nI k)), (0, .ref (ad 15)), (1, .int (nI k))]) hx hb d_X_weightSoFar_1 rfl hl (by decide) rfl (fun ls hl => ?_)
  refine lv_aload_n hx hb d_X_weightSoFar_2 rfl (lv_at hl 1 rfl) ?_
  refine va_get (D := D) (ci := 3) (v := .ref (ad 18)) (C := R_X) (T := F_X) (N := 9) hx hb htb iw_X hown hK hP 15 rfl rfl 3 (by decide) (htb _ mw_130) (fun _ h9 => h9) rfl d_X_weightSoFar_3 ?_
  refine lv_iload_n hx hb d_X_weightSoFar_6 rfl (lv_at hl 2 rfl) ?_
  refine q_iald hx hb hK hP 18 14 rfl rfl k (by omega) (by decide) d_X_weightSoFar_7 ?_
  refine lv_istore_n (lv' := [(3, .int (g 18 k)), (2, .int (nI k)), (0, .ref (ad 15)), (1, .int (nI k))]) hx hb d_X_weightSoFar_8 rfl hl (by decide) rfl (fun ls hl => ?_)
  refine lv_iconst (v := 0) hx hb d_X_weightSoFar_9 (by decide) ?_
  refine lv_istore (lv' := [(4, .int 0), (3, .int (g 18 k)), (2, .int (nI k)), (0, .ref (ad 15)), (1, .int (nI k))]) hx hb d_X_weightSoFar_10 hl (by decide) rfl (fun ls hl => ?_)
  have lp12 : ∀ (n : Nat) (i f : Nat) (sm : Int32), i ≤ 60 → 61 ≤ i + n → f < 60 → wsfL g nx (60 - i) f sm = wsfL g nx 60 k (g 18 k) → ∀ (ls : Array Slot), lv_has ls 5 [(0, .ref (ad 15)), (2, .int (nI f)), (3, .int sm), (4, .int (nI i))] → W p l e ({ frames := 1, cells := 0, slots := 0, locals := 21 } : Room) s m args below meth c s.heap [] 0 0 Q (F0 m 12 ls []) := by
    intro n
    induction n with
    | zero => intro i f sm hi hm hf6 hf ls hl; exact absurd hm (by omega)
    | succ n ih =>
      intro i f sm hi hm hf6 hf ls hl
      refine lv_iload hx hb d_X_weightSoFar_12 (lv_at hl 3 rfl) ?_
      refine lv_bipush (v := 60) hx hb d_X_weightSoFar_14 (by decide) ?_
      refine q_icmp_ge (a := i) (b := 60) (tgt := 54) hx hb (by omega) (by omega) d_X_weightSoFar_16 (by decide) (fun c1 => ?_) (fun c1 => ?_)
      · refine lv_iload_n hx hb d_X_weightSoFar_54 rfl (lv_at hl 2 rfl) ?_
        exact hret _ _ _ (by rw [← hf, show 60 - i = 0 by omega]; rfl) d_X_weightSoFar_55
      · refine lv_aload_n hx hb d_X_weightSoFar_19 rfl (lv_at hl 0 rfl) ?_
        refine lv_aload_n hx hb d_X_weightSoFar_20 rfl (lv_at hl 0 rfl) ?_
        refine va_get (D := D) (ci := 3) (v := .ref (ad 23)) (C := R_X) (T := F_X) (N := 9) hx hb htb iw_X hown hK hP 15 rfl rfl 8 (by decide) (htb _ mw_139) (fun _ h9 => h9) rfl d_X_weightSoFar_21 ?_
        refine lv_iload_n hx hb d_X_weightSoFar_24 rfl (lv_at hl 1 rfl) ?_
        refine q_iald hx hb hK hP 23 19 rfl rfl f (by omega) (by decide) d_X_weightSoFar_25 ?_
        refine rdV (As := [.int (g 23 f)]) (rest := []) (b := ad 15) ⟨hx, hb, hml, hown, htb⟩ (c_X_has l D ad kd g z v nx hnx hx6 (g 23 f)) (cwV (C := R_X) 1 htb (gV tb_good mw_242 mw_182 mw_183 mw_30 mw_184) rfl rfl rfl (by decide +kernel) ⟨Nat.le_of_ble_eq_true rfl, Nat.le_of_ble_eq_true rfl⟩) hP hK (va_recv hK hP (ci := 3) (q0 := 15) rfl rfl) rfl hl.1 rfl (lv_room (Nat.le_of_ble_eq_true rfl)) d_X_weightSoFar_26 ⟨Nat.zero_le _, Nat.zero_le _⟩ ?_
        refine lv_if_eq (tgt := 54) hx hb d_X_weightSoFar_29 (by decide) (fun c2 => ?_) (fun c2 => ?_)
        · replace c2 := bI_f c2
          refine lv_iload_n hx hb d_X_weightSoFar_54 rfl (lv_at hl 2 rfl) ?_
          exact hret _ _ _ (by rw [← hf, show 60 - i = (60 - (i + 1)) + 1 by omega]; show _ = (if inN nx (g 23 f) = true then wsfL g nx (60 - (i + 1)) (ix (g 23 f)) (sm + g 18 (ix (g 23 f))) else sm); rw [if_neg (by rw [c2]; decide)]) d_X_weightSoFar_55
        · replace c2 := bI_t c2
          obtain ⟨q, hq, eq⟩ := inN_ix c2 (by omega)
          refine lv_aload_n hx hb d_X_weightSoFar_32 rfl (lv_at hl 0 rfl) ?_
          refine va_get (D := D) (ci := 3) (v := .ref (ad 23)) (C := R_X) (T := F_X) (N := 9) hx hb htb iw_X hown hK hP 15 rfl rfl 8 (by decide) (htb _ mw_139) (fun _ h9 => h9) rfl d_X_weightSoFar_33 ?_
          refine lv_iload_n hx hb d_X_weightSoFar_36 rfl (lv_at hl 1 rfl) ?_
          refine q_iald hx hb hK hP 23 19 rfl rfl f (by omega) (by decide) d_X_weightSoFar_37 ?_
          refine W.eq (congrArg (fun z => F0 m 38 ls (.int z :: [])) (show (g 23 f) = (nI q) from eq)) ?_
          refine lv_istore_n (lv' := [(2, .int (nI q)), (0, .ref (ad 15)), (3, .int sm), (4, .int (nI i))]) hx hb d_X_weightSoFar_38 rfl hl (by decide) rfl (fun ls hl => ?_)
          refine lv_iload_n hx hb d_X_weightSoFar_39 rfl (lv_at hl 2 rfl) ?_
          refine lv_aload_n hx hb d_X_weightSoFar_40 rfl (lv_at hl 1 rfl) ?_
          refine va_get (D := D) (ci := 3) (v := .ref (ad 18)) (C := R_X) (T := F_X) (N := 9) hx hb htb iw_X hown hK hP 15 rfl rfl 3 (by decide) (htb _ mw_130) (fun _ h9 => h9) rfl d_X_weightSoFar_41 ?_
          refine lv_iload_n hx hb d_X_weightSoFar_44 rfl (lv_at hl 0 rfl) ?_
          refine q_iald hx hb hK hP 18 14 rfl rfl q (by omega) (by decide) d_X_weightSoFar_45 ?_
          refine lv_iadd hx hb d_X_weightSoFar_46 ?_
          refine lv_istore_n (lv' := [(3, .int (sm + (g 18 q))), (2, .int (nI q)), (0, .ref (ad 15)), (4, .int (nI i))]) hx hb d_X_weightSoFar_47 rfl hl (by decide) rfl (fun ls hl => ?_)
          refine lv_iinc (v := (nI (i + 1))) (lv' := [(4, .int (nI (i + 1))), (3, .int (sm + (g 18 q))), (2, .int (nI q)), (0, .ref (ad 15))]) hx hb d_X_weightSoFar_48 hl (k := 3) rfl (q_inc _) (by decide) rfl (fun ls hl => ?_)
          refine lv_goto (tgt := 12) hx hb d_X_weightSoFar_51 (by decide) ?_
          exact ih (i + 1) q (sm + (g 18 q)) (by omega) (by omega) (by omega) (by rw [← hf, show 60 - i = (60 - (i + 1)) + 1 by omega]; show _ = (if inN nx (g 23 f) = true then wsfL g nx (60 - (i + 1)) (ix (g 23 f)) (sm + g 18 (ix (g 23 f))) else sm); rw [if_pos c2, eq, ix_nI (by omega)]) _ (lv_sub hl [3, 2, 1, 0] rfl)
  exact lp12 61 0 k (g 18 k) (by omega) (by omega) hk rfl _ (lv_sub hl [3, 2, 1, 0] rfl)
