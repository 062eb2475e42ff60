set_option maxHeartbeats 4000000 in
set_option maxRecDepth 100000 in
theorem c_K_in (l : Launch) (D : va_G) (w : va_W) (tys : List (ClassId × FieldType)) (x a b : Int32) : RD l y_K_in (.code y_K_in b_K_in 3 (some .boolean) :: TB) ({ frames := 0, cells := 0, slots := 0, locals := 0 } : Room) [.int x, .int a, .int b] D classes w tys (bI (inS x a b)) := by
  refine rd_of (by decide +kernel) (bI_nar _) (Nat.le_of_ble_eq_true rfl) ?_
  intro p e s m args below meth c Q ls hx hb hml htb hown hP hK hl hret
  have hl : lv_has ls 3 [(0, .int x), (1, .int a), (2, .int b)] := hl
  refine lv_iload_n hx hb d_K_in_0 rfl (lv_at hl 0 rfl) ?_
  refine lv_iload_n hx hb d_K_in_1 rfl (lv_at hl 1 rfl) ?_
  refine lv_icmp_lt (tgt := 14) hx hb d_K_in_2 (by decide) (fun c1 => ?_) (fun c1 => ?_)
  · refine lv_iconst (v := 0) hx hb d_K_in_14 (by decide) ?_
    exact hret _ _ _ (by simp [inS, bI, c1]) d_K_in_15
  · refine lv_iload_n hx hb d_K_in_5 rfl (lv_at hl 0 rfl) ?_
    refine lv_iload_n hx hb d_K_in_6 rfl (lv_at hl 2 rfl) ?_
    refine lv_icmp_gt (tgt := 14) hx hb d_K_in_7 (by decide) (fun c2 => ?_) (fun c2 => ?_)
    · refine lv_iconst (v := 0) hx hb d_K_in_14 (by decide) ?_
      exact hret _ _ _ (by simp [inS, bI, c1, c2]) d_K_in_15
    · refine lv_iconst (v := 1) hx hb d_K_in_10 (by decide) ?_
      refine lv_goto (tgt := 15) hx hb d_K_in_11 (by decide) ?_
      exact hret _ _ _ (by simp [inS, bI, c1, c2]) d_K_in_15
set_option maxHeartbeats 4000000 in
set_option maxRecDepth 100000 in
theorem c_K_isHolder (l : Launch) (D : va_G) (w : va_W) (tys : List (ClassId × FieldType)) (x : Int32) : RD l y_K_isHolder (.code y_K_isHolder b_K_isHolder 1 (some .boolean) :: TB) ({ frames := 1, cells := 0, slots := 0, locals := 22 } : Room) [.int x] D classes w tys (bI (inS x 0 9)) := by
  refine rd_of (by decide +kernel) (bI_nar _) (Nat.le_of_ble_eq_true rfl) ?_
  intro p e s m args below meth c Q ls hx hb hml htb hown hP hK hl hret
  have hl : lv_has ls 1 [(0, .int x)] := hl
  refine lv_iload_n hx hb d_K_isHolder_0 rfl (lv_at hl 0 rfl) ?_
  refine lv_iconst (v := 0) hx hb d_K_isHolder_1 (by decide) ?_
  refine lv_bipush (v := 9) hx hb d_K_isHolder_2 (by decide) ?_
  refine rdS (As := [.int x, .int 0, .int 9]) (rest := []) ⟨hx, hb, hml, hown, htb⟩ (c_K_in l D w tys x 0 9) (va_cwS 3 htb (gS tb_good mw_672 mw_673 mw_31 mw_674) rfl rfl rfl (by decide +kernel) ⟨Nat.le_of_ble_eq_true rfl, Nat.le_of_ble_eq_true rfl⟩) hP hK rfl hl.1 rfl (lv_room (Nat.le_of_ble_eq_true rfl)) d_K_isHolder_4 ⟨Nat.zero_le _, Nat.zero_le _⟩ ?_
  exact hret _ _ _ rfl d_K_isHolder_7
set_option maxHeartbeats 4000000 in
set_option maxRecDepth 100000 in
theorem c_K_thrown (l : Launch) (D : va_G) (an : Nat → Nat) (kn : Nat → ClassId) (h : Nat → Nat → Int32) (o : Nat → Bool) (u : Nat → Int32)  : RD l y_K_thrown (.code y_K_thrown b_K_thrown 1 (some .int) :: TB) ({ frames := 0, cells := 0, slots := 0, locals := 0 } : Room) [.ref (an 0)] D classes (wK an kn h o u) (tK kn) (u 0) := by
  refine rd_of (by decide +kernel) (rfl) (Nat.le_of_ble_eq_true rfl) ?_
  intro p e s m args below meth c Q ls hx hb hml htb hown hP hK hl hret
  have hl : lv_has ls 1 [(0, .ref (an 0))] := hl
  refine lv_aload_n hx hb d_K_thrown_0 rfl (lv_at hl 0 rfl) ?_
  refine va_get (D := D) (ci := 4) (v := .int (u 0)) (C := R_K) (T := F_K) (N := 22) hx hb htb iw_K hown hK hP 0 rfl rfl 0 (by decide) (htb _ mw_596) (fun _ h9 => h9) rfl d_K_thrown_1 ?_
  exact hret _ _ _ rfl d_K_thrown_4
set_option maxHeartbeats 4000000 in
set_option maxRecDepth 100000 in
theorem c_K_isBill (l : Launch) (D : va_G) (an : Nat → Nat) (kn : Nat → ClassId) (h : Nat → Nat → Int32) (o : Nat → Bool) (u : Nat → Int32) (nb : Nat) (hnb : u 1 = nI nb) (hb6 : nb ≤ 60) (x : Int32) : RD l y_K_isBill (.code y_K_isBill b_K_isBill 2 (some .boolean) :: TB) ({ frames := 0, cells := 0, slots := 0, locals := 0 } : Room) [.ref (an 0), .int x] D classes (wK an kn h o u) (tK kn) (bI (inN nb x)) := by
  refine rd_of (by decide +kernel) (bI_nar _) (Nat.le_of_ble_eq_true rfl) ?_
  intro p e s m args below meth c Q ls hx hb hml htb hown hP hK hl hret
  have hl : lv_has ls 2 [(0, .ref (an 0)), (1, .int x)] := hl
  refine lv_iload_n hx hb d_K_isBill_0 rfl (lv_at hl 1 rfl) ?_
  refine lv_if_lt (tgt := 16) hx hb d_K_isBill_1 (by decide) (fun c1 => ?_) (fun c1 => ?_)
  · refine lv_iconst (v := 0) hx hb d_K_isBill_16 (by decide) ?_
    exact hret _ _ _ (by simp [inN, bI, c1]) d_K_isBill_17
  · refine lv_iload_n hx hb d_K_isBill_4 rfl (lv_at hl 1 rfl) ?_
    refine lv_aload_n hx hb d_K_isBill_5 rfl (lv_at hl 0 rfl) ?_
    refine va_get (D := D) (ci := 4) (v := .int (nI nb)) (C := R_K) (T := F_K) (N := 22) hx hb htb iw_K hown hK hP 0 rfl rfl 1 (by decide) (htb _ mw_597) (fun _ h9 => h9) (congrArg (fun x => some (Value.int x)) hnb) d_K_isBill_6 ?_
    refine lv_icmp_ge (tgt := 16) hx hb d_K_isBill_9 (by decide) (fun c2 => ?_) (fun c2 => ?_)
    · refine lv_iconst (v := 0) hx hb d_K_isBill_16 (by decide) ?_
      exact hret _ _ _ (by simp [inN, bI, c1, c2]) d_K_isBill_17
    · refine lv_iconst (v := 1) hx hb d_K_isBill_12 (by decide) ?_
      refine lv_goto (tgt := 17) hx hb d_K_isBill_13 (by decide) ?_
      exact hret _ _ _ (by simp [inN, bI, c1, c2]) d_K_isBill_17
set_option maxHeartbeats 4000000 in
set_option maxRecDepth 100000 in
theorem c_K_isBox (l : Launch) (D : va_G) (an : Nat → Nat) (kn : Nat → ClassId) (h : Nat → Nat → Int32) (o : Nat → Bool) (u : Nat → Int32) (nx : Nat) (hnx : u 2 = nI nx) (hx6 : nx ≤ 60) (x : Int32) : RD l y_K_isBox (.code y_K_isBox b_K_isBox 2 (some .boolean) :: TB) ({ frames := 0, cells := 0, slots := 0, locals := 0 } : Room) [.ref (an 0), .int x] D classes (wK an kn h o u) (tK kn) (bI (inN nx x)) := by
  refine rd_of (by decide +kernel) (bI_nar _) (Nat.le_of_ble_eq_true rfl) ?_
  intro p e s m args below meth c Q ls hx hb hml htb hown hP hK hl hret
  have hl : lv_has ls 2 [(0, .ref (an 0)), (1, .int x)] := hl
  refine lv_iload_n hx hb d_K_isBox_0 rfl (lv_at hl 1 rfl) ?_
  refine lv_if_lt (tgt := 16) hx hb d_K_isBox_1 (by decide) (fun c1 => ?_) (fun c1 => ?_)
  · refine lv_iconst (v := 0) hx hb d_K_isBox_16 (by decide) ?_
    exact hret _ _ _ (by simp [inN, bI, c1]) d_K_isBox_17
  · refine lv_iload_n hx hb d_K_isBox_4 rfl (lv_at hl 1 rfl) ?_
    refine lv_aload_n hx hb d_K_isBox_5 rfl (lv_at hl 0 rfl) ?_
    refine va_get (D := D) (ci := 4) (v := .int (nI nx)) (C := R_K) (T := F_K) (N := 22) hx hb htb iw_K hown hK hP 0 rfl rfl 2 (by decide) (htb _ mw_598) (fun _ h9 => h9) (congrArg (fun x => some (Value.int x)) hnx) d_K_isBox_6 ?_
    refine lv_icmp_ge (tgt := 16) hx hb d_K_isBox_9 (by decide) (fun c2 => ?_) (fun c2 => ?_)
    · refine lv_iconst (v := 0) hx hb d_K_isBox_16 (by decide) ?_
      exact hret _ _ _ (by simp [inN, bI, c1, c2]) d_K_isBox_17
    · refine lv_iconst (v := 1) hx hb d_K_isBox_12 (by decide) ?_
      refine lv_goto (tgt := 17) hx hb d_K_isBox_13 (by decide) ?_
      exact hret _ _ _ (by simp [inN, bI, c1, c2]) d_K_isBox_17
set_option maxHeartbeats 4000000 in
set_option maxRecDepth 100000 in
theorem c_K_stands (l : Launch) (D : va_G) (an : Nat → Nat) (kn : Nat → ClassId) (h : Nat → Nat → Int32) (o : Nat → Bool) (u : Nat → Int32) (k b : Nat) (hk : k < 60) (hb9 : b < 60) : RD l y_K_stands (.code y_K_stands b_K_stands 3 (some .boolean) :: TB) ({ frames := 0, cells := 0, slots := 0, locals := 0 } : Room) [.ref (an 0), .int (nI k), .int (nI b)] D classes (wK an kn h o u) (tK kn) (bI (o (60 * k + b))) := by
  refine rd_of (by decide +kernel) (bI_nar _) (Nat.le_of_ble_eq_true rfl) ?_
  intro p e s m args below meth c Q ls hx hb hml htb hown hP hK hl hret
  have hl : lv_has ls 3 [(0, .ref (an 0)), (1, .int (nI k)), (2, .int (nI b))] := hl
  refine lv_aload_n hx hb d_K_stands_0 rfl (lv_at hl 0 rfl) ?_
  refine va_get (D := D) (ci := 4) (v := .ref (an 15)) (C := R_K) (T := F_K) (N := 22) hx hb htb iw_K hown hK hP 0 rfl rfl 21 (by decide) (htb _ mw_617) (fun _ h9 => h9) rfl d_K_stands_1 ?_
  refine lv_bipush (v := 60) hx hb d_K_stands_4 (by decide) ?_
  refine lv_iload_n hx hb d_K_stands_6 rfl (lv_at hl 1 rfl) ?_
  refine lv_imul hx hb d_K_stands_7 ?_
  refine W.eq (congrArg (fun z => F0 m 8 ls (.int z :: [.ref (an 15)])) (show (60 * (nI k)) = (nI (60 * k)) from pk_mul 60 _)) ?_
  refine lv_iload_n hx hb d_K_stands_8 rfl (lv_at hl 2 rfl) ?_
  refine lv_iadd hx hb d_K_stands_9 ?_
  refine W.eq (congrArg (fun z => F0 m 10 ls (.int z :: [.ref (an 15)])) (show ((nI (60 * k)) + (nI b)) = (nI ((60 * k) + b)) from nI_add _ _)) ?_
  refine q_zald hx hb hK hP 15 14 rfl rfl ((60 * k) + b) (by omega) (by decide) d_K_stands_10 ?_
  exact hret _ _ _ rfl d_K_stands_11
set_option maxHeartbeats 4000000 in
set_option maxRecDepth 100000 in
theorem c_K_numbered (l : Launch) (D : va_G) (an : Nat → Nat) (kn : Nat → ClassId) (h : Nat → Nat → Int32) (o : Nat → Bool) (u : Nat → Int32) (nb : Nat) (hnb : u 1 = nI nb) (hb6 : nb ≤ 60) (x y : Int32) : RD l y_K_numbered (.code y_K_numbered b_K_numbered 5 (some .int) :: TB) ({ frames := 0, cells := 0, slots := 0, locals := 0 } : Room) [.ref (an 0), .int x, .int y] D classes (wK an kn h o u) (tK kn) (numR h nb x y) := by
  refine rd_of (by decide +kernel) (rfl) (Nat.le_of_ble_eq_true rfl) ?_
  intro p e s m args below meth c Q ls hx hb hml htb hown hP hK hl hret
  have hl : lv_has ls 5 [(0, .ref (an 0)), (1, .int x), (2, .int y)] := hl
  refine lv_iconst (v := (-1)) hx hb d_K_numbered_0 (by decide) ?_
  refine lv_istore_n (lv' := [(3, .int (-1)), (0, .ref (an 0)), (1, .int x), (2, .int y)]) hx hb d_K_numbered_1 rfl hl (by decide) rfl (fun ls hl => ?_)
  refine lv_iconst (v := 0) hx hb d_K_numbered_2 (by decide) ?_
  refine lv_istore (lv' := [(4, .int 0), (3, .int (-1)), (0, .ref (an 0)), (1, .int x), (2, .int y)]) hx hb d_K_numbered_3 hl (by decide) rfl (fun ls hl => ?_)
  have lp5 : ∀ (n : Nat) (i : Nat) (r : Int32), i ≤ nb → nb + 1 ≤ i + n → r = lasN (fun b => decide (h 1 b = x) && decide (h 2 b = y)) i → ∀ (ls : Array Slot), lv_has ls 5 [(0, .ref (an 0)), (1, .int x), (2, .int y), (3, .int r), (4, .int (nI i))] → W p l e ({ frames := 0, cells := 0, slots := 0, locals := 0 } : Room) s m args below meth c s.heap [] 0 0 Q (F0 m 5 ls []) := by
    intro n
    induction n with
    | zero => intro i r hi hm hf ls hl; exact absurd hm (by omega)
    | succ n ih =>
      intro i r hi hm hf ls hl
      refine lv_iload hx hb d_K_numbered_5 (lv_at hl 4 rfl) ?_
      refine lv_aload_n hx hb d_K_numbered_7 rfl (lv_at hl 0 rfl) ?_
      refine va_get (D := D) (ci := 4) (v := .int (nI nb)) (C := R_K) (T := F_K) (N := 22) hx hb htb iw_K hown hK hP 0 rfl rfl 1 (by decide) (htb _ mw_597) (fun _ h9 => h9) (congrArg (fun x => some (Value.int x)) hnb) d_K_numbered_8 ?_
      refine q_icmp_ge (a := i) (b := nb) (tgt := 49) hx hb (by omega) (by omega) d_K_numbered_11 (by decide) (fun c1 => ?_) (fun c1 => ?_)
      · refine lv_iload_n hx hb d_K_numbered_49 rfl (lv_at hl 3 rfl) ?_
        exact hret _ _ _ (by show r = lasN (fun b => decide (h 1 b = x) && decide (h 2 b = y)) nb; rw [show nb = i by omega, hf]) d_K_numbered_50
      · refine lv_aload_n hx hb d_K_numbered_14 rfl (lv_at hl 0 rfl) ?_
        refine va_get (D := D) (ci := 4) (v := .ref (an 1)) (C := R_K) (T := F_K) (N := 22) hx hb htb iw_K hown hK hP 0 rfl rfl 7 (by decide) (htb _ mw_603) (fun _ h9 => h9) rfl d_K_numbered_15 ?_
        refine lv_iload hx hb d_K_numbered_18 (lv_at hl 4 rfl) ?_
        refine q_iald hx hb hK hP 1 0 rfl rfl i (by omega) (by decide) d_K_numbered_20 ?_
        refine lv_iload_n hx hb d_K_numbered_21 rfl (lv_at hl 1 rfl) ?_
        refine lv_icmp_ne (tgt := 41) hx hb d_K_numbered_22 (by decide) (fun c2 => ?_) (fun c2 => ?_)
        · refine lv_iload_n hx hb d_K_numbered_41 rfl (lv_at hl 3 rfl) ?_
          refine lv_istore_n (lv' := [(3, .int r), (0, .ref (an 0)), (1, .int x), (2, .int y), (4, .int (nI i))]) hx hb d_K_numbered_42 rfl hl (by decide) rfl (fun ls hl => ?_)
          refine lv_iinc (v := (nI (i + 1))) (lv' := [(4, .int (nI (i + 1))), (3, .int r), (0, .ref (an 0)), (1, .int x), (2, .int y)]) hx hb d_K_numbered_43 hl (k := 4) rfl (q_inc _) (by decide) rfl (fun ls hl => ?_)
          refine lv_goto (tgt := 5) hx hb d_K_numbered_46 (by decide) ?_
          exact ih (i + 1) r (by omega) (by omega) (by rw [lasN_f (by simp [c1, c2]), hf]) _ (lv_sub hl [2, 3, 4, 1, 0] rfl)
        · refine lv_aload_n hx hb d_K_numbered_25 rfl (lv_at hl 0 rfl) ?_
          refine va_get (D := D) (ci := 4) (v := .ref (an 2)) (C := R_K) (T := F_K) (N := 22) hx hb htb iw_K hown hK hP 0 rfl rfl 8 (by decide) (htb _ mw_604) (fun _ h9 => h9) rfl d_K_numbered_26 ?_
          refine lv_iload hx hb d_K_numbered_29 (lv_at hl 4 rfl) ?_
          refine q_iald hx hb hK hP 2 1 rfl rfl i (by omega) (by decide) d_K_numbered_31 ?_
          refine lv_iload_n hx hb d_K_numbered_32 rfl (lv_at hl 2 rfl) ?_
          refine lv_icmp_ne (tgt := 41) hx hb d_K_numbered_33 (by decide) (fun c3 => ?_) (fun c3 => ?_)
          · refine lv_iload_n hx hb d_K_numbered_41 rfl (lv_at hl 3 rfl) ?_
            refine lv_istore_n (lv' := [(3, .int r), (0, .ref (an 0)), (1, .int x), (2, .int y), (4, .int (nI i))]) hx hb d_K_numbered_42 rfl hl (by decide) rfl (fun ls hl => ?_)
            refine lv_iinc (v := (nI (i + 1))) (lv' := [(4, .int (nI (i + 1))), (3, .int r), (0, .ref (an 0)), (1, .int x), (2, .int y)]) hx hb d_K_numbered_43 hl (k := 4) rfl (q_inc _) (by decide) rfl (fun ls hl => ?_)
            refine lv_goto (tgt := 5) hx hb d_K_numbered_46 (by decide) ?_
            exact ih (i + 1) r (by omega) (by omega) (by rw [lasN_f (by simp [c1, c2, c3]), hf]) _ (lv_sub hl [2, 3, 4, 1, 0] rfl)
          · refine lv_iload hx hb d_K_numbered_36 (lv_at hl 4 rfl) ?_
            refine lv_goto (tgt := 42) hx hb d_K_numbered_38 (by decide) ?_
            refine lv_istore_n (lv' := [(3, .int (nI i)), (0, .ref (an 0)), (1, .int x), (2, .int y), (4, .int (nI i))]) hx hb d_K_numbered_42 rfl hl (by decide) rfl (fun ls hl => ?_)
            refine lv_iinc (v := (nI (i + 1))) (lv' := [(4, .int (nI (i + 1))), (3, .int (nI i)), (0, .ref (an 0)), (1, .int x), (2, .int y)]) hx hb d_K_numbered_43 hl (k := 4) rfl (q_inc _) (by decide) rfl (fun ls hl => ?_)
            refine lv_goto (tgt := 5) hx hb d_K_numbered_46 (by decide) ?_
            exact ih (i + 1) (nI i) (by omega) (by omega) (by rw [lasN_t (by simp [c1, c2, c3])]) _ (lv_sub hl [2, 3, 4, 1, 0] rfl)
  exact lp5 (nb + 1) 0 (-1) (Nat.zero_le _) (by omega) rfl _ (lv_sub hl [2, 3, 4, 1, 0] rfl)
set_option maxHeartbeats 4000000 in
set_option maxRecDepth 100000 in
theorem c_K_depthOf (l : Launch) (D : va_G) (an : Nat → Nat) (kn : Nat → ClassId) (h : Nat → Nat → Int32) (o : Nat → Bool) (u : Nat → Int32) (nb : Nat) (hnb : u 1 = nI nb) (hb6 : nb ≤ 60) (hab : abvOk (h 3) nb) (b : Nat) (hb9 : b < nb) : RD l y_K_depthOf (.code y_K_depthOf b_K_depthOf 4 (some .int) :: TB) ({ frames := 0, cells := 0, slots := 0, locals := 0 } : Room) [.ref (an 0), .int (nI b)] D classes (wK an kn h o u) (tK kn) (nI (depF (h 3) 60 b)) := by
  refine rd_of (by decide +kernel) (rfl) (Nat.le_of_ble_eq_true rfl) ?_
  intro p e s m args below meth c Q ls hx hb hml htb hown hP hK hl hret
  have hl : lv_has ls 4 [(0, .ref (an 0)), (1, .int (nI b))] := hl
  refine lv_iconst (v := 1) hx hb d_K_depthOf_0 (by decide) ?_
  refine lv_istore_n (lv' := [(2, .int 1), (0, .ref (an 0)), (1, .int (nI b))]) hx hb d_K_depthOf_1 rfl hl (by decide) rfl (fun ls hl => ?_)
  refine lv_iload_n hx hb d_K_depthOf_2 rfl (lv_at hl 2 rfl) ?_
  refine lv_istore_n (lv' := [(3, .int (nI b)), (2, .int 1), (0, .ref (an 0)), (1, .int (nI b))]) hx hb d_K_depthOf_3 rfl hl (by decide) rfl (fun ls hl => ?_)
  have lp4 : ∀ (n : Nat) (f k m9 : Nat), k < nb → k < f → k + 1 ≤ n → m9 + depF (h 3) f k = depF (h 3) 60 b + 1 → ∀ (ls : Array Slot), lv_has ls 4 [(0, .ref (an 0)), (2, .int (nI m9)), (3, .int (nI k))] → W p l e ({ frames := 0, cells := 0, slots := 0, locals := 0 } : Room) s m args below meth c s.heap [] 0 0 Q (F0 m 4 ls []) := by
    intro n
    induction n with
    | zero => intro f k m9 hk hkf hm hf ls hl; exact absurd hm (by omega)
    | succ n ih =>
      intro f k m9 hk hkf hm hf ls hl
      refine lv_aload_n hx hb d_K_depthOf_4 rfl (lv_at hl 0 rfl) ?_
      refine va_get (D := D) (ci := 4) (v := .ref (an 3)) (C := R_K) (T := F_K) (N := 22) hx hb htb iw_K hown hK hP 0 rfl rfl 9 (by decide) (htb _ mw_605) (fun _ h9 => h9) rfl d_K_depthOf_5 ?_
      refine lv_iload_n hx hb d_K_depthOf_8 rfl (lv_at hl 2 rfl) ?_
      refine q_iald hx hb hK hP 3 2 rfl rfl k (by omega) (by decide) d_K_depthOf_9 ?_
      refine lv_if_lt (tgt := 26) hx hb d_K_depthOf_10 (by decide) (fun c1 => ?_) (fun c1 => ?_)
      · refine lv_iload_n hx hb d_K_depthOf_26 rfl (lv_at hl 1 rfl) ?_
        exact hret _ _ _ (by have e1 := depF_neg (f3 := h 3) hkf c1; rw [show depF (h 3) 60 b = m9 by omega]) d_K_depthOf_27
      · obtain ⟨j, hj, ej⟩ : ∃ j, j < k ∧ h 3 k = nI j := (hab k (by omega)).elim (fun q => absurd (by rw [q]; decide) c1) id
        obtain ⟨f, rfl⟩ : ∃ q, f = q + 1 := ⟨f - 1, by omega⟩
        refine lv_iinc (v := (nI (m9 + 1))) (lv' := [(2, .int (nI (m9 + 1))), (0, .ref (an 0)), (3, .int (nI k))]) hx hb d_K_depthOf_13 hl (k := 1) rfl (q_inc _) (by decide) rfl (fun ls hl => ?_)
        refine lv_aload_n hx hb d_K_depthOf_16 rfl (lv_at hl 1 rfl) ?_
        refine va_get (D := D) (ci := 4) (v := .ref (an 3)) (C := R_K) (T := F_K) (N := 22) hx hb htb iw_K hown hK hP 0 rfl rfl 9 (by decide) (htb _ mw_605) (fun _ h9 => h9) rfl d_K_depthOf_17 ?_
        refine lv_iload_n hx hb d_K_depthOf_20 rfl (lv_at hl 2 rfl) ?_
        refine q_iald hx hb hK hP 3 2 rfl rfl k (by omega) (by decide) d_K_depthOf_21 ?_
        refine W.eq (congrArg (fun z => F0 m 22 ls (.int z :: [])) (show (h 3 k) = (nI j) from ej)) ?_
        refine lv_istore_n (lv' := [(3, .int (nI j)), (2, .int (nI (m9 + 1))), (0, .ref (an 0))]) hx hb d_K_depthOf_22 rfl hl (by decide) rfl (fun ls hl => ?_)
        refine lv_goto (tgt := 4) hx hb d_K_depthOf_23 (by decide) ?_
        exact ih f j (m9 + 1) (by omega) (by omega) (by omega) (by rw [← hf]; show _ = m9 + (if h 3 k < 0 then 1 else depF (h 3) f (ix (h 3 k)) + 1); rw [if_neg c1, ej, ix_nI (by omega)]; omega) _ (lv_sub hl [2, 1, 0] rfl)
  exact lp4 (b + 1) 60 b 1 hb9 (by omega) (Nat.le_refl _) (Nat.add_comm _ _) _ (lv_sub hl [2, 1, 0] rfl)
set_option maxHeartbeats 4000000 in
set_option maxRecDepth 100000 in
theorem c_K_masterOf (l : Launch) (D : va_G) (an : Nat → Nat) (kn : Nat → ClassId) (h : Nat → Nat → Int32) (o : Nat → Bool) (u : Nat → Int32) (nb : Nat) (hnb : u 1 = nI nb) (hb6 : nb ≤ 60) (hab : abvOk (h 3) nb) (b : Nat) (hb9 : b < nb) : RD l y_K_masterOf (.code y_K_masterOf b_K_masterOf 3 (some .int) :: TB) ({ frames := 0, cells := 0, slots := 0, locals := 0 } : Room) [.ref (an 0), .int (nI b)] D classes (wK an kn h o u) (tK kn) (nI (masF (h 3) 60 b)) := by
  refine rd_of (by decide +kernel) (rfl) (Nat.le_of_ble_eq_true rfl) ?_
  intro p e s m args below meth c Q ls hx hb hml htb hown hP hK hl hret
  have hl : lv_has ls 3 [(0, .ref (an 0)), (1, .int (nI b))] := hl
  refine lv_iload_n hx hb d_K_masterOf_0 rfl (lv_at hl 1 rfl) ?_
  refine lv_istore_n (lv' := [(2, .int (nI b)), (0, .ref (an 0)), (1, .int (nI b))]) hx hb d_K_masterOf_1 rfl hl (by decide) rfl (fun ls hl => ?_)
  have lp2 : ∀ (n : Nat) (f k : Nat), k < nb → k < f → k + 1 ≤ n → masF (h 3) f k = masF (h 3) 60 b → ∀ (ls : Array Slot), lv_has ls 3 [(0, .ref (an 0)), (2, .int (nI k))] → W p l e ({ frames := 0, cells := 0, slots := 0, locals := 0 } : Room) s m args below meth c s.heap [] 0 0 Q (F0 m 2 ls []) := by
    intro n
    induction n with
    | zero => intro f k hk hkf hm hf ls hl; exact absurd hm (by omega)
    | succ n ih =>
      intro f k hk hkf hm hf ls hl
      refine lv_aload_n hx hb d_K_masterOf_2 rfl (lv_at hl 0 rfl) ?_
      refine va_get (D := D) (ci := 4) (v := .ref (an 3)) (C := R_K) (T := F_K) (N := 22) hx hb htb iw_K hown hK hP 0 rfl rfl 9 (by decide) (htb _ mw_605) (fun _ h9 => h9) rfl d_K_masterOf_3 ?_
      refine lv_iload_n hx hb d_K_masterOf_6 rfl (lv_at hl 1 rfl) ?_
      refine q_iald hx hb hK hP 3 2 rfl rfl k (by omega) (by decide) d_K_masterOf_7 ?_
      refine lv_if_lt (tgt := 21) hx hb d_K_masterOf_8 (by decide) (fun c1 => ?_) (fun c1 => ?_)
      · refine lv_iload_n hx hb d_K_masterOf_21 rfl (lv_at hl 1 rfl) ?_
        exact hret _ _ _ (by rw [← hf, masF_neg hkf c1]) d_K_masterOf_22
      · obtain ⟨j, hj, ej⟩ : ∃ j, j < k ∧ h 3 k = nI j := (hab k (by omega)).elim (fun q => absurd (by rw [q]; decide) c1) id
        obtain ⟨f, rfl⟩ : ∃ q, f = q + 1 := ⟨f - 1, by omega⟩
        refine lv_aload_n hx hb d_K_masterOf_11 rfl (lv_at hl 0 rfl) ?_
        refine va_get (D := D) (ci := 4) (v := .ref (an 3)) (C := R_K) (T := F_K) (N := 22) hx hb htb iw_K hown hK hP 0 rfl rfl 9 (by decide) (htb _ mw_605) (fun _ h9 => h9) rfl d_K_masterOf_12 ?_
        refine lv_iload_n hx hb d_K_masterOf_15 rfl (lv_at hl 1 rfl) ?_
        refine q_iald hx hb hK hP 3 2 rfl rfl k (by omega) (by decide) d_K_masterOf_16 ?_
        refine W.eq (congrArg (fun z => F0 m 17 ls (.int z :: [])) (show (h 3 k) = (nI j) from ej)) ?_
        refine lv_istore_n (lv' := [(2, .int (nI j)), (0, .ref (an 0))]) hx hb d_K_masterOf_17 rfl hl (by decide) rfl (fun ls hl => ?_)
        refine lv_goto (tgt := 2) hx hb d_K_masterOf_18 (by decide) ?_
        exact ih f j (by omega) (by omega) (by omega) (by rw [← hf]; show _ = (if h 3 k < 0 then k else masF (h 3) f (ix (h 3 k))); rw [if_neg c1, ej, ix_nI (by omega)]) _ (lv_sub hl [1, 0] rfl)
  exact lp2 (b + 1) 60 b hb9 (by omega) (Nat.le_refl _) rfl _ (lv_sub hl [1, 0] rfl)
set_option maxHeartbeats 4000000 in
set_option maxRecDepth 100000 in
theorem c_K_linesOf (l : Launch) (D : va_G) (an : Nat → Nat) (kn : Nat → ClassId) (h : Nat → Nat → Int32) (o : Nat → Bool) (u : Nat → Int32) (nl : Nat) (hnl : u 3 = nI nl) (hl2 : nl ≤ 200) (x : Int32) : RD l y_K_linesOf (.code y_K_linesOf b_K_linesOf 4 (some .int) :: TB) ({ frames := 0, cells := 0, slots := 0, locals := 0 } : Room) [.ref (an 0), .int x] D classes (wK an kn h o u) (tK kn) (nI (lofR h nl x)) := by
  refine rd_of (by decide +kernel) (rfl) (Nat.le_of_ble_eq_true rfl) ?_
  intro p e s m args below meth c Q ls hx hb hml htb hown hP hK hl hret
  have hl : lv_has ls 4 [(0, .ref (an 0)), (1, .int x)] := hl
  refine lv_iconst (v := 0) hx hb d_K_linesOf_0 (by decide) ?_
  refine lv_istore_n (lv' := [(2, .int 0), (0, .ref (an 0)), (1, .int x)]) hx hb d_K_linesOf_1 rfl hl (by decide) rfl (fun ls hl => ?_)
  refine lv_iconst (v := 0) hx hb d_K_linesOf_2 (by decide) ?_
  refine lv_istore_n (lv' := [(3, .int 0), (2, .int 0), (0, .ref (an 0)), (1, .int x)]) hx hb d_K_linesOf_3 rfl hl (by decide) rfl (fun ls hl => ?_)
  have lp4 : ∀ (n : Nat) (i : Nat) (f : Nat), i ≤ nl → nl + 1 ≤ i + n → f = cntN (fun k => decide (h 6 k = x)) i → ∀ (ls : Array Slot), lv_has ls 4 [(0, .ref (an 0)), (1, .int x), (2, .int (nI f)), (3, .int (nI i))] → W p l e ({ frames := 0, cells := 0, slots := 0, locals := 0 } : Room) s m args below meth c s.heap [] 0 0 Q (F0 m 4 ls []) := by
    intro n
    induction n with
    | zero => intro i f hi hm hf ls hl; exact absurd hm (by omega)
    | succ n ih =>
      intro i f hi hm hf ls hl
      refine lv_iload_n hx hb d_K_linesOf_4 rfl (lv_at hl 3 rfl) ?_
      refine lv_aload_n hx hb d_K_linesOf_5 rfl (lv_at hl 0 rfl) ?_
      refine va_get (D := D) (ci := 4) (v := .int (nI nl)) (C := R_K) (T := F_K) (N := 22) hx hb htb iw_K hown hK hP 0 rfl rfl 3 (by decide) (htb _ mw_599) (fun _ h9 => h9) (congrArg (fun x => some (Value.int x)) hnl) d_K_linesOf_6 ?_
      refine q_icmp_ge (a := i) (b := nl) (tgt := 36) hx hb (by omega) (by omega) d_K_linesOf_9 (by decide) (fun c1 => ?_) (fun c1 => ?_)
      · refine lv_iload_n hx hb d_K_linesOf_36 rfl (lv_at hl 2 rfl) ?_
        exact hret _ _ _ (by show nI f = nI (cntN _ nl); rw [show nl = i by omega, hf]) d_K_linesOf_37
      · refine lv_iload_n hx hb d_K_linesOf_12 rfl (lv_at hl 2 rfl) ?_
        refine lv_aload_n hx hb d_K_linesOf_13 rfl (lv_at hl 0 rfl) ?_
        refine va_get (D := D) (ci := 4) (v := .ref (an 6)) (C := R_K) (T := F_K) (N := 22) hx hb htb iw_K hown hK hP 0 rfl rfl 12 (by decide) (htb _ mw_608) (fun _ h9 => h9) rfl d_K_linesOf_14 ?_
        refine lv_iload_n hx hb d_K_linesOf_17 rfl (lv_at hl 3 rfl) ?_
        refine q_iald hx hb hK hP 6 5 rfl rfl i (by omega) (by decide) d_K_linesOf_18 ?_
        refine lv_iload_n hx hb d_K_linesOf_19 rfl (lv_at hl 1 rfl) ?_
        refine lv_icmp_ne (tgt := 27) hx hb d_K_linesOf_20 (by decide) (fun c2 => ?_) (fun c2 => ?_)
        · refine lv_iconst (v := 0) hx hb d_K_linesOf_27 (by decide) ?_
          refine lv_iadd hx hb d_K_linesOf_28 ?_
          refine W.eq (congrArg (fun z => F0 m 29 ls (.int z :: [])) (show ((nI f) + 0) = (nI f) from Int32.add_zero _)) ?_
          refine lv_istore_n (lv' := [(2, .int (nI f)), (0, .ref (an 0)), (1, .int x), (3, .int (nI i))]) hx hb d_K_linesOf_29 rfl hl (by decide) rfl (fun ls hl => ?_)
          refine lv_iinc (v := (nI (i + 1))) (lv' := [(3, .int (nI (i + 1))), (2, .int (nI f)), (0, .ref (an 0)), (1, .int x)]) hx hb d_K_linesOf_30 hl (k := 3) rfl (q_inc _) (by decide) rfl (fun ls hl => ?_)
          refine lv_goto (tgt := 4) hx hb d_K_linesOf_33 (by decide) ?_
          exact ih (i + 1) f (by omega) (by omega) (by rw [cntN_f (by simp [c1, c2]), hf]) _ (lv_sub hl [2, 3, 1, 0] rfl)
        · refine lv_iconst (v := 1) hx hb d_K_linesOf_23 (by decide) ?_
          refine lv_goto (tgt := 28) hx hb d_K_linesOf_24 (by decide) ?_
          refine lv_iadd hx hb d_K_linesOf_28 ?_
          refine W.eq (congrArg (fun z => F0 m 29 ls (.int z :: [])) (show ((nI f) + 1) = (nI (f + 1)) from nI_1 _)) ?_
          refine lv_istore_n (lv' := [(2, .int (nI (f + 1))), (0, .ref (an 0)), (1, .int x), (3, .int (nI i))]) hx hb d_K_linesOf_29 rfl hl (by decide) rfl (fun ls hl => ?_)
          refine lv_iinc (v := (nI (i + 1))) (lv' := [(3, .int (nI (i + 1))), (2, .int (nI (f + 1))), (0, .ref (an 0)), (1, .int x)]) hx hb d_K_linesOf_30 hl (k := 3) rfl (q_inc _) (by decide) rfl (fun ls hl => ?_)
          refine lv_goto (tgt := 4) hx hb d_K_linesOf_33 (by decide) ?_
          exact ih (i + 1) (f + 1) (by omega) (by omega) (by rw [cntN_t (by simp [c1, c2]), hf]) _ (lv_sub hl [2, 3, 1, 0] rfl)
  exact lp4 (nl + 1) 0 0 (Nat.zero_le _) (by omega) rfl _ (lv_sub hl [2, 3, 1, 0] rfl)
set_option maxHeartbeats 4000000 in
set_option maxRecDepth 100000 in
theorem c_K_weightOf (l : Launch) (D : va_G) (an : Nat → Nat) (kn : Nat → ClassId) (h : Nat → Nat → Int32) (o : Nat → Bool) (u : Nat → Int32) (nl : Nat) (hnl : u 3 = nI nl) (hl2 : nl ≤ 200) (x : Int32) : RD l y_K_weightOf (.code y_K_weightOf b_K_weightOf 4 (some .int) :: TB) ({ frames := 0, cells := 0, slots := 0, locals := 0 } : Room) [.ref (an 0), .int x] D classes (wK an kn h o u) (tK kn) (wofR h nl x) := by
  refine rd_of (by decide +kernel) (rfl) (Nat.le_of_ble_eq_true rfl) ?_
  intro p e s m args below meth c Q ls hx hb hml htb hown hP hK hl hret
  have hl : lv_has ls 4 [(0, .ref (an 0)), (1, .int x)] := hl
  refine lv_iconst (v := 0) hx hb d_K_weightOf_0 (by decide) ?_
  refine lv_istore_n (lv' := [(2, .int 0), (0, .ref (an 0)), (1, .int x)]) hx hb d_K_weightOf_1 rfl hl (by decide) rfl (fun ls hl => ?_)
  refine lv_iconst (v := 0) hx hb d_K_weightOf_2 (by decide) ?_
  refine lv_istore_n (lv' := [(3, .int 0), (2, .int 0), (0, .ref (an 0)), (1, .int x)]) hx hb d_K_weightOf_3 rfl hl (by decide) rfl (fun ls hl => ?_)
  have lp4 : ∀ (n : Nat) (i : Nat) (sm : Int32), i ≤ nl → nl + 1 ≤ i + n → sm = sumN (fun k => if h 6 k = x then h 7 k else 0) i → ∀ (ls : Array Slot), lv_has ls 4 [(0, .ref (an 0)), (1, .int x), (2, .int sm), (3, .int (nI i))] → W p l e ({ frames := 0, cells := 0, slots := 0, locals := 0 } : Room) s m args below meth c s.heap [] 0 0 Q (F0 m 4 ls []) := by
    intro n
    induction n with
    | zero => intro i sm hi hm hs ls hl; exact absurd hm (by omega)
    | succ n ih =>
      intro i sm hi hm hs ls hl
      refine lv_iload_n hx hb d_K_weightOf_4 rfl (lv_at hl 3 rfl) ?_
      refine lv_aload_n hx hb d_K_weightOf_5 rfl (lv_at hl 0 rfl) ?_
      refine va_get (D := D) (ci := 4) (v := .int (nI nl)) (C := R_K) (T := F_K) (N := 22) hx hb htb iw_K hown hK hP 0 rfl rfl 3 (by decide) (htb _ mw_599) (fun _ h9 => h9) (congrArg (fun x => some (Value.int x)) hnl) d_K_weightOf_6 ?_
      refine q_icmp_ge (a := i) (b := nl) (tgt := 41) hx hb (by omega) (by omega) d_K_weightOf_9 (by decide) (fun c1 => ?_) (fun c1 => ?_)
      · refine lv_iload_n hx hb d_K_weightOf_41 rfl (lv_at hl 2 rfl) ?_
        exact hret _ _ _ (by show sm = sumN (fun k => if h 6 k = x then h 7 k else 0) nl; rw [show nl = i by omega, hs]) d_K_weightOf_42
      · refine lv_iload_n hx hb d_K_weightOf_12 rfl (lv_at hl 2 rfl) ?_
        refine lv_aload_n hx hb d_K_weightOf_13 rfl (lv_at hl 0 rfl) ?_
        refine va_get (D := D) (ci := 4) (v := .ref (an 6)) (C := R_K) (T := F_K) (N := 22) hx hb htb iw_K hown hK hP 0 rfl rfl 12 (by decide) (htb _ mw_608) (fun _ h9 => h9) rfl d_K_weightOf_14 ?_
        refine lv_iload_n hx hb d_K_weightOf_17 rfl (lv_at hl 3 rfl) ?_
        refine q_iald hx hb hK hP 6 5 rfl rfl i (by omega) (by decide) d_K_weightOf_18 ?_
        refine lv_iload_n hx hb d_K_weightOf_19 rfl (lv_at hl 1 rfl) ?_
        refine lv_icmp_ne (tgt := 32) hx hb d_K_weightOf_20 (by decide) (fun c2 => ?_) (fun c2 => ?_)
        · refine lv_iconst (v := 0) hx hb d_K_weightOf_32 (by decide) ?_
          refine lv_iadd hx hb d_K_weightOf_33 ?_
          refine lv_istore_n (lv' := [(2, .int (sm + 0)), (0, .ref (an 0)), (1, .int x), (3, .int (nI i))]) hx hb d_K_weightOf_34 rfl hl (by decide) rfl (fun ls hl => ?_)
          refine lv_iinc (v := (nI (i + 1))) (lv' := [(3, .int (nI (i + 1))), (2, .int (sm + 0)), (0, .ref (an 0)), (1, .int x)]) hx hb d_K_weightOf_35 hl (k := 3) rfl (q_inc _) (by decide) rfl (fun ls hl => ?_)
          refine lv_goto (tgt := 4) hx hb d_K_weightOf_38 (by decide) ?_
          exact ih (i + 1) (sm + 0) (by omega) (by omega) (by show (sm + 0) = sumN (fun k => if h 6 k = x then h 7 k else 0) i + _; rw [← hs]; simp [c1, c2]) _ (lv_sub hl [2, 3, 1, 0] rfl)
        · refine lv_aload_n hx hb d_K_weightOf_23 rfl (lv_at hl 0 rfl) ?_
          refine va_get (D := D) (ci := 4) (v := .ref (an 7)) (C := R_K) (T := F_K) (N := 22) hx hb htb iw_K hown hK hP 0 rfl rfl 13 (by decide) (htb _ mw_609) (fun _ h9 => h9) rfl d_K_weightOf_24 ?_
          refine lv_iload_n hx hb d_K_weightOf_27 rfl (lv_at hl 3 rfl) ?_
          refine q_iald hx hb hK hP 7 6 rfl rfl i (by omega) (by decide) d_K_weightOf_28 ?_
          refine lv_goto (tgt := 33) hx hb d_K_weightOf_29 (by decide) ?_
          refine lv_iadd hx hb d_K_weightOf_33 ?_
          refine lv_istore_n (lv' := [(2, .int (sm + (h 7 i))), (0, .ref (an 0)), (1, .int x), (3, .int (nI i))]) hx hb d_K_weightOf_34 rfl hl (by decide) rfl (fun ls hl => ?_)
          refine lv_iinc (v := (nI (i + 1))) (lv' := [(3, .int (nI (i + 1))), (2, .int (sm + (h 7 i))), (0, .ref (an 0)), (1, .int x)]) hx hb d_K_weightOf_35 hl (k := 3) rfl (q_inc _) (by decide) rfl (fun ls hl => ?_)
          refine lv_goto (tgt := 4) hx hb d_K_weightOf_38 (by decide) ?_
          exact ih (i + 1) (sm + (h 7 i)) (by omega) (by omega) (by show (sm + (h 7 i)) = sumN (fun k => if h 6 k = x then h 7 k else 0) i + _; rw [← hs]; simp [c1, c2]) _ (lv_sub hl [2, 3, 1, 0] rfl)
  exact lp4 (nl + 1) 0 0 (Nat.zero_le _) (by omega) rfl _ (lv_sub hl [2, 3, 1, 0] rfl)
set_option maxHeartbeats 4000000 in
set_option maxRecDepth 100000 in
theorem c_K_piecesOf (l : Launch) (D : va_G) (an : Nat → Nat) (kn : Nat → ClassId) (h : Nat → Nat → Int32) (o : Nat → Bool) (u : Nat → Int32) (nl : Nat) (hnl : u 3 = nI nl) (hl2 : nl ≤ 200) (x : Int32) : RD l y_K_piecesOf (.code y_K_piecesOf b_K_piecesOf 4 (some .int) :: TB) ({ frames := 0, cells := 0, slots := 0, locals := 0 } : Room) [.ref (an 0), .int x] D classes (wK an kn h o u) (tK kn) (pofR h nl x) := by
  refine rd_of (by decide +kernel) (rfl) (Nat.le_of_ble_eq_true rfl) ?_
  intro p e s m args below meth c Q ls hx hb hml htb hown hP hK hl hret
  have hl : lv_has ls 4 [(0, .ref (an 0)), (1, .int x)] := hl
  refine lv_iconst (v := 0) hx hb d_K_piecesOf_0 (by decide) ?_
  refine lv_istore_n (lv' := [(2, .int 0), (0, .ref (an 0)), (1, .int x)]) hx hb d_K_piecesOf_1 rfl hl (by decide) rfl (fun ls hl => ?_)
  refine lv_iconst (v := 0) hx hb d_K_piecesOf_2 (by decide) ?_
  refine lv_istore_n (lv' := [(3, .int 0), (2, .int 0), (0, .ref (an 0)), (1, .int x)]) hx hb d_K_piecesOf_3 rfl hl (by decide) rfl (fun ls hl => ?_)
  have lp4 : ∀ (n : Nat) (i : Nat) (sm : Int32), i ≤ nl → nl + 1 ≤ i + n → sm = sumN (fun k => if h 6 k = x then h 8 k else 0) i → ∀ (ls : Array Slot), lv_has ls 4 [(0, .ref (an 0)), (1, .int x), (2, .int sm), (3, .int (nI i))] → W p l e ({ frames := 0, cells := 0, slots := 0, locals := 0 } : Room) s m args below meth c s.heap [] 0 0 Q (F0 m 4 ls []) := by
    intro n
    induction n with
    | zero => intro i sm hi hm hs ls hl; exact absurd hm (by omega)
    | succ n ih =>
      intro i sm hi hm hs ls hl
      refine lv_iload_n hx hb d_K_piecesOf_4 rfl (lv_at hl 3 rfl) ?_
      refine lv_aload_n hx hb d_K_piecesOf_5 rfl (lv_at hl 0 rfl) ?_
      refine va_get (D := D) (ci := 4) (v := .int (nI nl)) (C := R_K) (T := F_K) (N := 22) hx hb htb iw_K hown hK hP 0 rfl rfl 3 (by decide) (htb _ mw_599) (fun _ h9 => h9) (congrArg (fun x => some (Value.int x)) hnl) d_K_piecesOf_6 ?_
      refine q_icmp_ge (a := i) (b := nl) (tgt := 41) hx hb (by omega) (by omega) d_K_piecesOf_9 (by decide) (fun c1 => ?_) (fun c1 => ?_)
      · refine lv_iload_n hx hb d_K_piecesOf_41 rfl (lv_at hl 2 rfl) ?_
        exact hret _ _ _ (by show sm = sumN (fun k => if h 6 k = x then h 8 k else 0) nl; rw [show nl = i by omega, hs]) d_K_piecesOf_42
      · refine lv_iload_n hx hb d_K_piecesOf_12 rfl (lv_at hl 2 rfl) ?_
        refine lv_aload_n hx hb d_K_piecesOf_13 rfl (lv_at hl 0 rfl) ?_
        refine va_get (D := D) (ci := 4) (v := .ref (an 6)) (C := R_K) (T := F_K) (N := 22) hx hb htb iw_K hown hK hP 0 rfl rfl 12 (by decide) (htb _ mw_608) (fun _ h9 => h9) rfl d_K_piecesOf_14 ?_
        refine lv_iload_n hx hb d_K_piecesOf_17 rfl (lv_at hl 3 rfl) ?_
        refine q_iald hx hb hK hP 6 5 rfl rfl i (by omega) (by decide) d_K_piecesOf_18 ?_
        refine lv_iload_n hx hb d_K_piecesOf_19 rfl (lv_at hl 1 rfl) ?_
        refine lv_icmp_ne (tgt := 32) hx hb d_K_piecesOf_20 (by decide) (fun c2 => ?_) (fun c2 => ?_)
        · refine lv_iconst (v := 0) hx hb d_K_piecesOf_32 (by decide) ?_
          refine lv_iadd hx hb d_K_piecesOf_33 ?_
          refine lv_istore_n (lv' := [(2, .int (sm + 0)), (0, .ref (an 0)), (1, .int x), (3, .int (nI i))]) hx hb d_K_piecesOf_34 rfl hl (by decide) rfl (fun ls hl => ?_)
          refine lv_iinc (v := (nI (i + 1))) (lv' := [(3, .int (nI (i + 1))), (2, .int (sm + 0)), (0, .ref (an 0)), (1, .int x)]) hx hb d_K_piecesOf_35 hl (k := 3) rfl (q_inc _) (by decide) rfl (fun ls hl => ?_)
          refine lv_goto (tgt := 4) hx hb d_K_piecesOf_38 (by decide) ?_
          exact ih (i + 1) (sm + 0) (by omega) (by omega) (by show (sm + 0) = sumN (fun k => if h 6 k = x then h 8 k else 0) i + _; rw [← hs]; simp [c1, c2]) _ (lv_sub hl [2, 3, 1, 0] rfl)
        · refine lv_aload_n hx hb d_K_piecesOf_23 rfl (lv_at hl 0 rfl) ?_
          refine va_get (D := D) (ci := 4) (v := .ref (an 8)) (C := R_K) (T := F_K) (N := 22) hx hb htb iw_K hown hK hP 0 rfl rfl 14 (by decide) (htb _ mw_610) (fun _ h9 => h9) rfl d_K_piecesOf_24 ?_
          refine lv_iload_n hx hb d_K_piecesOf_27 rfl (lv_at hl 3 rfl) ?_
          refine q_iald hx hb hK hP 8 7 rfl rfl i (by omega) (by decide) d_K_piecesOf_28 ?_
          refine lv_goto (tgt := 33) hx hb d_K_piecesOf_29 (by decide) ?_
          refine lv_iadd hx hb d_K_piecesOf_33 ?_
          refine lv_istore_n (lv' := [(2, .int (sm + (h 8 i))), (0, .ref (an 0)), (1, .int x), (3, .int (nI i))]) hx hb d_K_piecesOf_34 rfl hl (by decide) rfl (fun ls hl => ?_)
          refine lv_iinc (v := (nI (i + 1))) (lv' := [(3, .int (nI (i + 1))), (2, .int (sm + (h 8 i))), (0, .ref (an 0)), (1, .int x)]) hx hb d_K_piecesOf_35 hl (k := 3) rfl (q_inc _) (by decide) rfl (fun ls hl => ?_)
          refine lv_goto (tgt := 4) hx hb d_K_piecesOf_38 (by decide) ?_
          exact ih (i + 1) (sm + (h 8 i)) (by omega) (by omega) (by show (sm + (h 8 i)) = sumN (fun k => if h 6 k = x then h 8 k else 0) i + _; rw [← hs]; simp [c1, c2]) _ (lv_sub hl [2, 3, 1, 0] rfl)
  exact lp4 (nl + 1) 0 0 (Nat.zero_le _) (by omega) rfl _ (lv_sub hl [2, 3, 1, 0] rfl)
set_option maxHeartbeats 4000000 in
set_option maxRecDepth 100000 in
theorem c_K_belowOf (l : Launch) (D : va_G) (an : Nat → Nat) (kn : Nat → ClassId) (h : Nat → Nat → Int32) (o : Nat → Bool) (u : Nat → Int32) (nb : Nat) (hnb : u 1 = nI nb) (hb6 : nb ≤ 60) (x : Int32) : RD l y_K_belowOf (.code y_K_belowOf b_K_belowOf 4 (some .int) :: TB) ({ frames := 0, cells := 0, slots := 0, locals := 0 } : Room) [.ref (an 0), .int x] D classes (wK an kn h o u) (tK kn) (nI (belR h nb x)) := by
  refine rd_of (by decide +kernel) (rfl) (Nat.le_of_ble_eq_true rfl) ?_
  intro p e s m args below meth c Q ls hx hb hml htb hown hP hK hl hret
  have hl : lv_has ls 4 [(0, .ref (an 0)), (1, .int x)] := hl
  refine lv_iconst (v := 0) hx hb d_K_belowOf_0 (by decide) ?_
  refine lv_istore_n (lv' := [(2, .int 0), (0, .ref (an 0)), (1, .int x)]) hx hb d_K_belowOf_1 rfl hl (by decide) rfl (fun ls hl => ?_)
  refine lv_iconst (v := 0) hx hb d_K_belowOf_2 (by decide) ?_
  refine lv_istore_n (lv' := [(3, .int 0), (2, .int 0), (0, .ref (an 0)), (1, .int x)]) hx hb d_K_belowOf_3 rfl hl (by decide) rfl (fun ls hl => ?_)
  have lp4 : ∀ (n : Nat) (i : Nat) (f : Nat), i ≤ nb → nb + 1 ≤ i + n → f = cntN (fun k => decide (h 3 k = x)) i → ∀ (ls : Array Slot), lv_has ls 4 [(0, .ref (an 0)), (1, .int x), (2, .int (nI f)), (3, .int (nI i))] → W p l e ({ frames := 0, cells := 0, slots := 0, locals := 0 } : Room) s m args below meth c s.heap [] 0 0 Q (F0 m 4 ls []) := by
    intro n
    induction n with
    | zero => intro i f hi hm hf ls hl; exact absurd hm (by omega)
    | succ n ih =>
      intro i f hi hm hf ls hl
      refine lv_iload_n hx hb d_K_belowOf_4 rfl (lv_at hl 3 rfl) ?_
      refine lv_aload_n hx hb d_K_belowOf_5 rfl (lv_at hl 0 rfl) ?_
      refine va_get (D := D) (ci := 4) (v := .int (nI nb)) (C := R_K) (T := F_K) (N := 22) hx hb htb iw_K hown hK hP 0 rfl rfl 1 (by decide) (htb _ mw_597) (fun _ h9 => h9) (congrArg (fun x => some (Value.int x)) hnb) d_K_belowOf_6 ?_
      refine q_icmp_ge (a := i) (b := nb) (tgt := 36) hx hb (by omega) (by omega) d_K_belowOf_9 (by decide) (fun c1 => ?_) (fun c1 => ?_)
      · refine lv_iload_n hx hb d_K_belowOf_36 rfl (lv_at hl 2 rfl) ?_
        exact hret _ _ _ (by show nI f = nI (cntN _ nb); rw [show nb = i by omega, hf]) d_K_belowOf_37
      · refine lv_iload_n hx hb d_K_belowOf_12 rfl (lv_at hl 2 rfl) ?_
        refine lv_aload_n hx hb d_K_belowOf_13 rfl (lv_at hl 0 rfl) ?_
        refine va_get (D := D) (ci := 4) (v := .ref (an 3)) (C := R_K) (T := F_K) (N := 22) hx hb htb iw_K hown hK hP 0 rfl rfl 9 (by decide) (htb _ mw_605) (fun _ h9 => h9) rfl d_K_belowOf_14 ?_
        refine lv_iload_n hx hb d_K_belowOf_17 rfl (lv_at hl 3 rfl) ?_
        refine q_iald hx hb hK hP 3 2 rfl rfl i (by omega) (by decide) d_K_belowOf_18 ?_
        refine lv_iload_n hx hb d_K_belowOf_19 rfl (lv_at hl 1 rfl) ?_
        refine lv_icmp_ne (tgt := 27) hx hb d_K_belowOf_20 (by decide) (fun c2 => ?_) (fun c2 => ?_)
        · refine lv_iconst (v := 0) hx hb d_K_belowOf_27 (by decide) ?_
          refine lv_iadd hx hb d_K_belowOf_28 ?_
          refine W.eq (congrArg (fun z => F0 m 29 ls (.int z :: [])) (show ((nI f) + 0) = (nI f) from Int32.add_zero _)) ?_
          refine lv_istore_n (lv' := [(2, .int (nI f)), (0, .ref (an 0)), (1, .int x), (3, .int (nI i))]) hx hb d_K_belowOf_29 rfl hl (by decide) rfl (fun ls hl => ?_)
          refine lv_iinc (v := (nI (i + 1))) (lv' := [(3, .int (nI (i + 1))), (2, .int (nI f)), (0, .ref (an 0)), (1, .int x)]) hx hb d_K_belowOf_30 hl (k := 3) rfl (q_inc _) (by decide) rfl (fun ls hl => ?_)
          refine lv_goto (tgt := 4) hx hb d_K_belowOf_33 (by decide) ?_
          exact ih (i + 1) f (by omega) (by omega) (by rw [cntN_f (by simp [c1, c2]), hf]) _ (lv_sub hl [2, 3, 1, 0] rfl)
        · refine lv_iconst (v := 1) hx hb d_K_belowOf_23 (by decide) ?_
          refine lv_goto (tgt := 28) hx hb d_K_belowOf_24 (by decide) ?_
          refine lv_iadd hx hb d_K_belowOf_28 ?_
          refine W.eq (congrArg (fun z => F0 m 29 ls (.int z :: [])) (show ((nI f) + 1) = (nI (f + 1)) from nI_1 _)) ?_
          refine lv_istore_n (lv' := [(2, .int (nI (f + 1))), (0, .ref (an 0)), (1, .int x), (3, .int (nI i))]) hx hb d_K_belowOf_29 rfl hl (by decide) rfl (fun ls hl => ?_)
          refine lv_iinc (v := (nI (i + 1))) (lv' := [(3, .int (nI (i + 1))), (2, .int (nI (f + 1))), (0, .ref (an 0)), (1, .int x)]) hx hb d_K_belowOf_30 hl (k := 3) rfl (q_inc _) (by decide) rfl (fun ls hl => ?_)
          refine lv_goto (tgt := 4) hx hb d_K_belowOf_33 (by decide) ?_
          exact ih (i + 1) (f + 1) (by omega) (by omega) (by rw [cntN_t (by simp [c1, c2]), hf]) _ (lv_sub hl [2, 3, 1, 0] rfl)
  exact lp4 (nb + 1) 0 0 (Nat.zero_le _) (by omega) rfl _ (lv_sub hl [2, 3, 1, 0] rfl)
set_option maxHeartbeats 4000000 in
set_option maxRecDepth 100000 in
theorem c_K_differs (l : Launch) (D : va_G) (an : Nat → Nat) (kn : Nat → ClassId) (h : Nat → Nat → Int32) (o : Nat → Bool) (u : Nat → Int32) (nb : Nat) (hnb : u 1 = nI nb) (hb6 : nb ≤ 60) (nl : Nat) (hnl : u 3 = nI nl) (hl2 : nl ≤ 200) (x : Int32) : RD l y_K_differs (.code y_K_differs b_K_differs 4 (some .int) :: TB) ({ frames := 1, cells := 0, slots := 0, locals := 23 } : Room) [.ref (an 0), .int x] D classes (wK an kn h o u) (tK kn) (difR h nb nl x) := by
  refine rd_of (by decide +kernel) (rfl) (Nat.le_of_ble_eq_true rfl) ?_
  intro p e s m args below meth c Q ls hx hb hml htb hown hP hK hl hret
  have hl : lv_has ls 4 [(0, .ref (an 0)), (1, .int x)] := hl
  refine lv_aload_n hx hb d_K_differs_0 rfl (lv_at hl 0 rfl) ?_
  refine lv_iload_n hx hb d_K_differs_1 rfl (lv_at hl 1 rfl) ?_
  refine rdV (As := [.int x]) (rest := []) (b := an 0) ⟨hx, hb, hml, hown, htb⟩ (c_K_weightOf l D an kn h o u nl hnl hl2 x) (cwV (C := R_K) 1 htb (gV tb_good mw_756 mw_758 mw_15 mw_31 mw_759) rfl rfl rfl (by decide +kernel) ⟨Nat.le_of_ble_eq_true rfl, Nat.le_of_ble_eq_true rfl⟩) hP hK (va_recv hK hP (ci := 4) (q0 := 0) rfl rfl) rfl hl.1 rfl (lv_room (Nat.le_of_ble_eq_true rfl)) d_K_differs_2 ⟨Nat.zero_le _, Nat.zero_le _⟩ ?_
  refine lv_istore_n (lv' := [(2, .int (wofR h nl x)), (0, .ref (an 0)), (1, .int x)]) hx hb d_K_differs_5 rfl hl (by decide) rfl (fun ls hl => ?_)
  refine lv_iconst (v := 0) hx hb d_K_differs_6 (by decide) ?_
  refine lv_istore_n (lv' := [(3, .int 0), (2, .int (wofR h nl x)), (0, .ref (an 0)), (1, .int x)]) hx hb d_K_differs_7 rfl hl (by decide) rfl (fun ls hl => ?_)
  have lp8 : ∀ (n : Nat) (i : Nat) (sm : Int32), i ≤ nb → nb + 1 ≤ i + n → sm = wofR h nl x - sumN (fun k => if h 3 k = x then wofR h nl (nI k) else 0) i → ∀ (ls : Array Slot), lv_has ls 4 [(0, .ref (an 0)), (1, .int x), (2, .int sm), (3, .int (nI i))] → W p l e ({ frames := 1, cells := 0, slots := 0, locals := 23 } : Room) s m args below meth c s.heap [] 0 0 Q (F0 m 8 ls []) := by
    intro n
    induction n with
    | zero => intro i sm hi hm hs ls hl; exact absurd hm (by omega)
    | succ n ih =>
      intro i sm hi hm hs ls hl
      refine lv_iload_n hx hb d_K_differs_8 rfl (lv_at hl 3 rfl) ?_
      refine lv_aload_n hx hb d_K_differs_9 rfl (lv_at hl 0 rfl) ?_
      refine va_get (D := D) (ci := 4) (v := .int (nI nb)) (C := R_K) (T := F_K) (N := 22) hx hb htb iw_K hown hK hP 0 rfl rfl 1 (by decide) (htb _ mw_597) (fun _ h9 => h9) (congrArg (fun x => some (Value.int x)) hnb) d_K_differs_10 ?_
      refine q_icmp_ge (a := i) (b := nb) (tgt := 44) hx hb (by omega) (by omega) d_K_differs_13 (by decide) (fun c1 => ?_) (fun c1 => ?_)
      · refine lv_aload_n hx hb d_K_differs_44 rfl (lv_at hl 0 rfl) ?_
        refine lv_iload_n hx hb d_K_differs_45 rfl (lv_at hl 1 rfl) ?_
        refine rdV (As := [.int x]) (rest := []) (b := an 0) ⟨hx, hb, hml, hown, htb⟩ (c_K_belowOf l D an kn h o u nb hnb hb6 x) (cwV (C := R_K) 1 htb (gV tb_good mw_760 mw_762 mw_16 mw_31 mw_763) rfl rfl rfl (by decide +kernel) ⟨Nat.le_of_ble_eq_true rfl, Nat.le_of_ble_eq_true rfl⟩) hP hK (va_recv hK hP (ci := 4) (q0 := 0) rfl rfl) rfl hl.1 rfl (lv_room (Nat.le_of_ble_eq_true rfl)) d_K_differs_46 ⟨Nat.zero_le _, Nat.zero_le _⟩ ?_
        refine lv_if_ne (tgt := 56) hx hb d_K_differs_49 (by decide) (fun c2 => ?_) (fun c2 => ?_)
        · refine lv_iload_n hx hb d_K_differs_56 rfl (lv_at hl 2 rfl) ?_
          exact hret _ _ _ (by rw [show i = nb by omega] at hs; show _ = (if belR h nb x = 0 then 0 else _); rw [if_neg (fun q => c2 (by rw [q]; rfl)), hs]) d_K_differs_57
        · refine lv_iconst (v := 0) hx hb d_K_differs_52 (by decide) ?_
          refine lv_goto (tgt := 57) hx hb d_K_differs_53 (by decide) ?_
          exact hret _ _ _ (by show _ = (if belR h nb x = 0 then 0 else _); rw [if_pos ((nI_eq (by have := cntN_le (fun k => decide (h 3 k = x)) nb; show cntN _ nb < _; omega) (by decide)).mp (c2.trans nI_0.symm))]) d_K_differs_57
      · refine lv_iload_n hx hb d_K_differs_16 rfl (lv_at hl 2 rfl) ?_
        refine lv_aload_n hx hb d_K_differs_17 rfl (lv_at hl 0 rfl) ?_
        refine va_get (D := D) (ci := 4) (v := .ref (an 3)) (C := R_K) (T := F_K) (N := 22) hx hb htb iw_K hown hK hP 0 rfl rfl 9 (by decide) (htb _ mw_605) (fun _ h9 => h9) rfl d_K_differs_18 ?_
        refine lv_iload_n hx hb d_K_differs_21 rfl (lv_at hl 3 rfl) ?_
        refine q_iald hx hb hK hP 3 2 rfl rfl i (by omega) (by decide) d_K_differs_22 ?_
        refine lv_iload_n hx hb d_K_differs_23 rfl (lv_at hl 1 rfl) ?_
        refine lv_icmp_ne (tgt := 35) hx hb d_K_differs_24 (by decide) (fun c3 => ?_) (fun c3 => ?_)
        · refine lv_iconst (v := 0) hx hb d_K_differs_35 (by decide) ?_
          refine lv_isub hx hb d_K_differs_36 ?_
          refine lv_istore_n (lv' := [(2, .int (sm - 0)), (0, .ref (an 0)), (1, .int x), (3, .int (nI i))]) hx hb d_K_differs_37 rfl hl (by decide) rfl (fun ls hl => ?_)
          refine lv_iinc (v := (nI (i + 1))) (lv' := [(3, .int (nI (i + 1))), (2, .int (sm - 0)), (0, .ref (an 0)), (1, .int x)]) hx hb d_K_differs_38 hl (k := 3) rfl (q_inc _) (by decide) rfl (fun ls hl => ?_)
          refine lv_goto (tgt := 8) hx hb d_K_differs_41 (by decide) ?_
          exact ih (i + 1) (sm - 0) (by omega) (by omega) (by show (sm - 0) = wofR h nl x - (sumN (fun k => if h 3 k = x then wofR h nl (nI k) else 0) i + _); rw [← sub_step, ← hs]; simp [c1, c3]) _ (lv_sub hl [2, 3, 1, 0] rfl)
        · refine lv_aload_n hx hb d_K_differs_27 rfl (lv_at hl 0 rfl) ?_
          refine lv_iload_n hx hb d_K_differs_28 rfl (lv_at hl 3 rfl) ?_
          refine rdV (As := [.int (nI i)]) (rest := [.int sm]) (b := an 0) ⟨hx, hb, hml, hown, htb⟩ (c_K_weightOf l D an kn h o u nl hnl hl2 (nI i)) (cwV (C := R_K) 1 htb (gV tb_good mw_756 mw_758 mw_15 mw_31 mw_759) rfl rfl rfl (by decide +kernel) ⟨Nat.le_of_ble_eq_true rfl, Nat.le_of_ble_eq_true rfl⟩) hP hK (va_recv hK hP (ci := 4) (q0 := 0) rfl rfl) rfl hl.1 rfl (lv_room (Nat.le_of_ble_eq_true rfl)) d_K_differs_29 ⟨Nat.zero_le _, Nat.zero_le _⟩ ?_
          refine lv_goto (tgt := 36) hx hb d_K_differs_32 (by decide) ?_
          refine lv_isub hx hb d_K_differs_36 ?_
          refine lv_istore_n (lv' := [(2, .int (sm - (wofR h nl (nI i)))), (0, .ref (an 0)), (1, .int x), (3, .int (nI i))]) hx hb d_K_differs_37 rfl hl (by decide) rfl (fun ls hl => ?_)
          refine lv_iinc (v := (nI (i + 1))) (lv' := [(3, .int (nI (i + 1))), (2, .int (sm - (wofR h nl (nI i)))), (0, .ref (an 0)), (1, .int x)]) hx hb d_K_differs_38 hl (k := 3) rfl (q_inc _) (by decide) rfl (fun ls hl => ?_)
          refine lv_goto (tgt := 8) hx hb d_K_differs_41 (by decide) ?_
          exact ih (i + 1) (sm - (wofR h nl (nI i))) (by omega) (by omega) (by show (sm - (wofR h nl (nI i))) = wofR h nl x - (sumN (fun k => if h 3 k = x then wofR h nl (nI k) else 0) i + _); rw [← sub_step, ← hs]; simp [c1, c3]) _ (lv_sub hl [2, 3, 1, 0] rfl)
  exact lp8 (nb + 1) 0 (wofR h nl x) (Nat.zero_le _) (by omega) (Int32.sub_zero _).symm _ (lv_sub hl [2, 3, 1, 0] rfl)
set_option maxHeartbeats 4000000 in
set_option maxRecDepth 100000 in
theorem c_K_billsOf (l : Launch) (D : va_G) (an : Nat → Nat) (kn : Nat → ClassId) (h : Nat → Nat → Int32) (o : Nat → Bool) (u : Nat → Int32) (nb : Nat) (hnb : u 1 = nI nb) (hb6 : nb ≤ 60) (k : Nat) (hk : k < 60) : RD l y_K_billsOf (.code y_K_billsOf b_K_billsOf 4 (some .int) :: TB) ({ frames := 1, cells := 0, slots := 0, locals := 22 } : Room) [.ref (an 0), .int (nI k)] D classes (wK an kn h o u) (tK kn) (nI (bofR o nb k)) := by
  refine rd_of (by decide +kernel) (rfl) (Nat.le_of_ble_eq_true rfl) ?_
  intro p e s m args below meth c Q ls hx hb hml htb hown hP hK hl hret
  have hl : lv_has ls 4 [(0, .ref (an 0)), (1, .int (nI k))] := hl
  refine lv_iconst (v := 0) hx hb d_K_billsOf_0 (by decide) ?_
  refine lv_istore_n (lv' := [(2, .int 0), (0, .ref (an 0)), (1, .int (nI k))]) hx hb d_K_billsOf_1 rfl hl (by decide) rfl (fun ls hl => ?_)
  refine lv_iconst (v := 0) hx hb d_K_billsOf_2 (by decide) ?_
  refine lv_istore_n (lv' := [(3, .int 0), (2, .int 0), (0, .ref (an 0)), (1, .int (nI k))]) hx hb d_K_billsOf_3 rfl hl (by decide) rfl (fun ls hl => ?_)
  have lp4 : ∀ (n : Nat) (i : Nat) (f : Nat), i ≤ nb → nb + 1 ≤ i + n → f = cntN (fun b => o (60 * k + b)) i → ∀ (ls : Array Slot), lv_has ls 4 [(0, .ref (an 0)), (1, .int (nI k)), (2, .int (nI f)), (3, .int (nI i))] → W p l e ({ frames := 1, cells := 0, slots := 0, locals := 22 } : Room) s m args below meth c s.heap [] 0 0 Q (F0 m 4 ls []) := by
    intro n
    induction n with
    | zero => intro i f hi hm hf ls hl; exact absurd hm (by omega)
    | succ n ih =>
      intro i f hi hm hf ls hl
      refine lv_iload_n hx hb d_K_billsOf_4 rfl (lv_at hl 3 rfl) ?_
      refine lv_aload_n hx hb d_K_billsOf_5 rfl (lv_at hl 0 rfl) ?_
      refine va_get (D := D) (ci := 4) (v := .int (nI nb)) (C := R_K) (T := F_K) (N := 22) hx hb htb iw_K hown hK hP 0 rfl rfl 1 (by decide) (htb _ mw_597) (fun _ h9 => h9) (congrArg (fun x => some (Value.int x)) hnb) d_K_billsOf_6 ?_
      refine q_icmp_ge (a := i) (b := nb) (tgt := 35) hx hb (by omega) (by omega) d_K_billsOf_9 (by decide) (fun c1 => ?_) (fun c1 => ?_)
      · refine lv_iload_n hx hb d_K_billsOf_35 rfl (lv_at hl 2 rfl) ?_
        exact hret _ _ _ (by show nI f = nI (cntN _ nb); rw [show nb = i by omega, hf]) d_K_billsOf_36
      · refine lv_iload_n hx hb d_K_billsOf_12 rfl (lv_at hl 2 rfl) ?_
        refine lv_aload_n hx hb d_K_billsOf_13 rfl (lv_at hl 0 rfl) ?_
        refine lv_iload_n hx hb d_K_billsOf_14 rfl (lv_at hl 1 rfl) ?_
        refine lv_iload_n hx hb d_K_billsOf_15 rfl (lv_at hl 3 rfl) ?_
        refine rdV (As := [.int (nI k), .int (nI i)]) (rest := [.int (nI f)]) (b := an 0) ⟨hx, hb, hml, hown, htb⟩ (c_K_stands l D an kn h o u k i (by omega) (by omega)) (cwV (C := R_K) 2 htb (gV tb_good mw_717 mw_719 mw_12 mw_31 mw_720) rfl rfl rfl (by decide +kernel) ⟨Nat.le_of_ble_eq_true rfl, Nat.le_of_ble_eq_true rfl⟩) hP hK (va_recv hK hP (ci := 4) (q0 := 0) rfl rfl) rfl hl.1 rfl (lv_room (Nat.le_of_ble_eq_true rfl)) d_K_billsOf_16 ⟨Nat.zero_le _, Nat.zero_le _⟩ ?_
        refine lv_if_eq (tgt := 26) hx hb d_K_billsOf_19 (by decide) (fun c2 => ?_) (fun c2 => ?_)
        · replace c2 := bI_f c2
          refine lv_iconst (v := 0) hx hb d_K_billsOf_26 (by decide) ?_
          refine lv_iadd hx hb d_K_billsOf_27 ?_
          refine W.eq (congrArg (fun z => F0 m 28 ls (.int z :: [])) (show ((nI f) + 0) = (nI f) from Int32.add_zero _)) ?_
          refine lv_istore_n (lv' := [(2, .int (nI f)), (0, .ref (an 0)), (1, .int (nI k)), (3, .int (nI i))]) hx hb d_K_billsOf_28 rfl hl (by decide) rfl (fun ls hl => ?_)
          refine lv_iinc (v := (nI (i + 1))) (lv' := [(3, .int (nI (i + 1))), (2, .int (nI f)), (0, .ref (an 0)), (1, .int (nI k))]) hx hb d_K_billsOf_29 hl (k := 3) rfl (q_inc _) (by decide) rfl (fun ls hl => ?_)
          refine lv_goto (tgt := 4) hx hb d_K_billsOf_32 (by decide) ?_
          exact ih (i + 1) f (by omega) (by omega) (by rw [cntN_f (by simp [c1, c2]), hf]) _ (lv_sub hl [2, 3, 1, 0] rfl)
        · replace c2 := bI_t c2
          refine lv_iconst (v := 1) hx hb d_K_billsOf_22 (by decide) ?_
          refine lv_goto (tgt := 27) hx hb d_K_billsOf_23 (by decide) ?_
          refine lv_iadd hx hb d_K_billsOf_27 ?_
          refine W.eq (congrArg (fun z => F0 m 28 ls (.int z :: [])) (show ((nI f) + 1) = (nI (f + 1)) from nI_1 _)) ?_
          refine lv_istore_n (lv' := [(2, .int (nI (f + 1))), (0, .ref (an 0)), (1, .int (nI k)), (3, .int (nI i))]) hx hb d_K_billsOf_28 rfl hl (by decide) rfl (fun ls hl => ?_)
          refine lv_iinc (v := (nI (i + 1))) (lv' := [(3, .int (nI (i + 1))), (2, .int (nI (f + 1))), (0, .ref (an 0)), (1, .int (nI k))]) hx hb d_K_billsOf_29 hl (k := 3) rfl (q_inc _) (by decide) rfl (fun ls hl => ?_)
          refine lv_goto (tgt := 4) hx hb d_K_billsOf_32 (by decide) ?_
          exact ih (i + 1) (f + 1) (by omega) (by omega) (by rw [cntN_t (by simp [c1, c2]), hf]) _ (lv_sub hl [2, 3, 1, 0] rfl)
  exact lp4 (nb + 1) 0 0 (Nat.zero_le _) (by omega) rfl _ (lv_sub hl [2, 3, 1, 0] rfl)
set_option maxHeartbeats 4000000 in
set_option maxRecDepth 100000 in
theorem c_K_boxesOf (l : Launch) (D : va_G) (an : Nat → Nat) (kn : Nat → ClassId) (h : Nat → Nat → Int32) (o : Nat → Bool) (u : Nat → Int32) (nx : Nat) (hnx : u 2 = nI nx) (hx6 : nx ≤ 60) (b : Nat) (hb9 : b < 60) : RD l y_K_boxesOf (.code y_K_boxesOf b_K_boxesOf 4 (some .int) :: TB) ({ frames := 1, cells := 0, slots := 0, locals := 22 } : Room) [.ref (an 0), .int (nI b)] D classes (wK an kn h o u) (tK kn) (nI (xofR o nx b)) := by
  refine rd_of (by decide +kernel) (rfl) (Nat.le_of_ble_eq_true rfl) ?_
  intro p e s m args below meth c Q ls hx hb hml htb hown hP hK hl hret
  have hl : lv_has ls 4 [(0, .ref (an 0)), (1, .int (nI b))] := hl
  refine lv_iconst (v := 0) hx hb d_K_boxesOf_0 (by decide) ?_
  refine lv_istore_n (lv' := [(2, .int 0), (0, .ref (an 0)), (1, .int (nI b))]) hx hb d_K_boxesOf_1 rfl hl (by decide) rfl (fun ls hl => ?_)
  refine lv_iconst (v := 0) hx hb d_K_boxesOf_2 (by decide) ?_
  refine lv_istore_n (lv' := [(3, .int 0), (2, .int 0), (0, .ref (an 0)), (1, .int (nI b))]) hx hb d_K_boxesOf_3 rfl hl (by decide) rfl (fun ls hl => ?_)
  have lp4 : ∀ (n : Nat) (i : Nat) (f : Nat), i ≤ nx → nx + 1 ≤ i + n → f = cntN (fun k => o (60 * k + b)) i → ∀ (ls : Array Slot), lv_has ls 4 [(0, .ref (an 0)), (1, .int (nI b)), (2, .int (nI f)), (3, .int (nI i))] → W p l e ({ frames := 1, cells := 0, slots := 0, locals := 22 } : Room) s m args below meth c s.heap [] 0 0 Q (F0 m 4 ls []) := by
    intro n
    induction n with
    | zero => intro i f hi hm hf ls hl; exact absurd hm (by omega)
    | succ n ih =>
      intro i f hi hm hf ls hl
      refine lv_iload_n hx hb d_K_boxesOf_4 rfl (lv_at hl 3 rfl) ?_
      refine lv_aload_n hx hb d_K_boxesOf_5 rfl (lv_at hl 0 rfl) ?_
      refine va_get (D := D) (ci := 4) (v := .int (nI nx)) (C := R_K) (T := F_K) (N := 22) hx hb htb iw_K hown hK hP 0 rfl rfl 2 (by decide) (htb _ mw_598) (fun _ h9 => h9) (congrArg (fun x => some (Value.int x)) hnx) d_K_boxesOf_6 ?_
      refine q_icmp_ge (a := i) (b := nx) (tgt := 35) hx hb (by omega) (by omega) d_K_boxesOf_9 (by decide) (fun c1 => ?_) (fun c1 => ?_)
      · refine lv_iload_n hx hb d_K_boxesOf_35 rfl (lv_at hl 2 rfl) ?_
        exact hret _ _ _ (by show nI f = nI (cntN _ nx); rw [show nx = i by omega, hf]) d_K_boxesOf_36
      · refine lv_iload_n hx hb d_K_boxesOf_12 rfl (lv_at hl 2 rfl) ?_
        refine lv_aload_n hx hb d_K_boxesOf_13 rfl (lv_at hl 0 rfl) ?_
        refine lv_iload_n hx hb d_K_boxesOf_14 rfl (lv_at hl 3 rfl) ?_
        refine lv_iload_n hx hb d_K_boxesOf_15 rfl (lv_at hl 1 rfl) ?_
        refine rdV (As := [.int (nI i), .int (nI b)]) (rest := [.int (nI f)]) (b := an 0) ⟨hx, hb, hml, hown, htb⟩ (c_K_stands l D an kn h o u i b (by omega) (by omega)) (cwV (C := R_K) 2 htb (gV tb_good mw_717 mw_719 mw_12 mw_31 mw_720) rfl rfl rfl (by decide +kernel) ⟨Nat.le_of_ble_eq_true rfl, Nat.le_of_ble_eq_true rfl⟩) hP hK (va_recv hK hP (ci := 4) (q0 := 0) rfl rfl) rfl hl.1 rfl (lv_room (Nat.le_of_ble_eq_true rfl)) d_K_boxesOf_16 ⟨Nat.zero_le _, Nat.zero_le _⟩ ?_
        refine lv_if_eq (tgt := 26) hx hb d_K_boxesOf_19 (by decide) (fun c2 => ?_) (fun c2 => ?_)
        · replace c2 := bI_f c2
          refine lv_iconst (v := 0) hx hb d_K_boxesOf_26 (by decide) ?_
          refine lv_iadd hx hb d_K_boxesOf_27 ?_
          refine W.eq (congrArg (fun z => F0 m 28 ls (.int z :: [])) (show ((nI f) + 0) = (nI f) from Int32.add_zero _)) ?_
          refine lv_istore_n (lv' := [(2, .int (nI f)), (0, .ref (an 0)), (1, .int (nI b)), (3, .int (nI i))]) hx hb d_K_boxesOf_28 rfl hl (by decide) rfl (fun ls hl => ?_)
          refine lv_iinc (v := (nI (i + 1))) (lv' := [(3, .int (nI (i + 1))), (2, .int (nI f)), (0, .ref (an 0)), (1, .int (nI b))]) hx hb d_K_boxesOf_29 hl (k := 3) rfl (q_inc _) (by decide) rfl (fun ls hl => ?_)
          refine lv_goto (tgt := 4) hx hb d_K_boxesOf_32 (by decide) ?_
          exact ih (i + 1) f (by omega) (by omega) (by rw [cntN_f (by simp [c1, c2]), hf]) _ (lv_sub hl [2, 3, 1, 0] rfl)
        · replace c2 := bI_t c2
          refine lv_iconst (v := 1) hx hb d_K_boxesOf_22 (by decide) ?_
          refine lv_goto (tgt := 27) hx hb d_K_boxesOf_23 (by decide) ?_
          refine lv_iadd hx hb d_K_boxesOf_27 ?_
          refine W.eq (congrArg (fun z => F0 m 28 ls (.int z :: [])) (show ((nI f) + 1) = (nI (f + 1)) from nI_1 _)) ?_
          refine lv_istore_n (lv' := [(2, .int (nI (f + 1))), (0, .ref (an 0)), (1, .int (nI b)), (3, .int (nI i))]) hx hb d_K_boxesOf_28 rfl hl (by decide) rfl (fun ls hl => ?_)
          refine lv_iinc (v := (nI (i + 1))) (lv' := [(3, .int (nI (i + 1))), (2, .int (nI (f + 1))), (0, .ref (an 0)), (1, .int (nI b))]) hx hb d_K_boxesOf_29 hl (k := 3) rfl (q_inc _) (by decide) rfl (fun ls hl => ?_)
          refine lv_goto (tgt := 4) hx hb d_K_boxesOf_32 (by decide) ?_
          exact ih (i + 1) (f + 1) (by omega) (by omega) (by rw [cntN_t (by simp [c1, c2]), hf]) _ (lv_sub hl [2, 3, 1, 0] rfl)
  exact lp4 (nx + 1) 0 0 (Nat.zero_le _) (by omega) rfl _ (lv_sub hl [2, 3, 1, 0] rfl)
set_option maxHeartbeats 4000000 in
set_option maxRecDepth 100000 in
theorem c_K_waitsNow (l : Launch) (D : va_G) (an : Nat → Nat) (kn : Nat → ClassId) (h : Nat → Nat → Int32) (o : Nat → Bool) (u : Nat → Int32) (nb : Nat) (hnb : u 1 = nI nb) (hb6 : nb ≤ 60) (k : Nat) (hk : k < 60) : RD l y_K_waitsNow (.code y_K_waitsNow b_K_waitsNow 2 (some .boolean) :: TB) ({ frames := 2, cells := 0, slots := 0, locals := 45 } : Room) [.ref (an 0), .int (nI k)] D classes (wK an kn h o u) (tK kn) (bI (wnoR h o nb k)) := by
  refine rd_of (by decide +kernel) (bI_nar _) (Nat.le_of_ble_eq_true rfl) ?_
  intro p e s m args below meth c Q ls hx hb hml htb hown hP hK hl hret
  have hl : lv_has ls 2 [(0, .ref (an 0)), (1, .int (nI k))] := hl
  refine lv_aload_n hx hb d_K_waitsNow_0 rfl (lv_at hl 0 rfl) ?_
  refine va_get (D := D) (ci := 4) (v := .ref (an 12)) (C := R_K) (T := F_K) (N := 22) hx hb htb iw_K hown hK hP 0 rfl rfl 18 (by decide) (htb _ mw_614) (fun _ h9 => h9) rfl d_K_waitsNow_1 ?_
  refine lv_iload_n hx hb d_K_waitsNow_4 rfl (lv_at hl 1 rfl) ?_
  refine q_iald hx hb hK hP 12 11 rfl rfl k (by omega) (by decide) d_K_waitsNow_5 ?_
  refine lv_if_lt (tgt := 21) hx hb d_K_waitsNow_6 (by decide) (fun c1 => ?_) (fun c1 => ?_)
  · refine lv_iconst (v := 0) hx hb d_K_waitsNow_21 (by decide) ?_
    exact hret _ _ _ (by show _ = bI (if h 12 k < 0 then false else _); rw [if_pos c1]; rfl) d_K_waitsNow_22
  · refine lv_aload_n hx hb d_K_waitsNow_9 rfl (lv_at hl 0 rfl) ?_
    refine lv_iload_n hx hb d_K_waitsNow_10 rfl (lv_at hl 1 rfl) ?_
    refine rdV (As := [.int (nI k)]) (rest := []) (b := an 0) ⟨hx, hb, hml, hown, htb⟩ (c_K_billsOf l D an kn h o u nb hnb hb6 k (by omega)) (cwV (C := R_K) 1 htb (gV tb_good mw_721 mw_723 mw_13 mw_31 mw_724) rfl rfl rfl (by decide +kernel) ⟨Nat.le_of_ble_eq_true rfl, Nat.le_of_ble_eq_true rfl⟩) hP hK (va_recv hK hP (ci := 4) (q0 := 0) rfl rfl) rfl hl.1 rfl (lv_room (Nat.le_of_ble_eq_true rfl)) d_K_waitsNow_11 ⟨Nat.zero_le _, Nat.zero_le _⟩ ?_
    refine lv_if_ne (tgt := 21) hx hb d_K_waitsNow_14 (by decide) (fun c2 => ?_) (fun c2 => ?_)
    · refine lv_iconst (v := 0) hx hb d_K_waitsNow_21 (by decide) ?_
      exact hret _ _ _ (by show _ = bI (if h 12 k < 0 then false else if bofR o nb k = 0 then true else false); rw [if_neg c1, if_neg (fun q => c2 (by rw [q]; rfl))]; rfl) d_K_waitsNow_22
    · refine lv_iconst (v := 1) hx hb d_K_waitsNow_17 (by decide) ?_
      refine lv_goto (tgt := 22) hx hb d_K_waitsNow_18 (by decide) ?_
      exact hret _ _ _ (by show _ = bI (if h 12 k < 0 then false else if bofR o nb k = 0 then true else false); rw [if_neg c1, if_pos ((nI_eq (by have := cntN_le (fun b => o (60 * k + b)) nb; show cntN _ nb < _; omega) (by decide)).mp (c2.trans nI_0.symm))]; rfl) d_K_waitsNow_22
set_option maxHeartbeats 4000000 in
set_option maxRecDepth 100000 in
theorem c_K_make (l : Launch) (D : va_G) (an : Nat → Nat) (kn : Nat → ClassId) (h : Nat → Nat → Int32) (o : Nat → Bool) (u : Nat → Int32) (nb : Nat) (hnb : u 1 = nI nb) (hb6 : nb ≤ 60) (hlt : nb < 60) (a1 a2 a3 : Int32) : WRi l y_K_make (.code y_K_make b_K_make 4 (some .int) :: TB) ({ frames := 0, cells := 0, slots := 0, locals := 0 } : Room) [.ref (an 0), .int a1, .int a2, .int a3] D classes (wK an kn h o u) (wK an kn (makR h nb a1 a2 a3) o (upd u 1 (nI nb + 1))) (tK kn) (nI nb) := by
  refine wr_of (by decide +kernel) (rfl) (Nat.le_of_ble_eq_true rfl) ?_
  intro p e s m args below meth c Q ls A hx hb hml htb hown hP hK hD hS hA hl hret
  have hl : lv_has ls 4 [(0, .ref (an 0)), (1, .int a1), (2, .int a2), (3, .int a3)] := hl
  refine lv_aload_n hx hb d_K_make_0 rfl (lv_at hl 0 rfl) ?_
  refine va_get (D := D) (ci := 4) (v := .ref (an 1)) (C := R_K) (T := F_K) (N := 22) hx hb htb iw_K hown hK hP 0 rfl rfl 7 (by decide) (htb _ mw_603) (fun _ h9 => h9) rfl d_K_make_1 ?_
  refine lv_aload_n hx hb d_K_make_4 rfl (lv_at hl 0 rfl) ?_
  refine va_get (D := D) (ci := 4) (v := .int (nI nb)) (C := R_K) (T := F_K) (N := 22) hx hb htb iw_K hown hK hP 0 rfl rfl 1 (by decide) (htb _ mw_597) (fun _ h9 => h9) (congrArg (fun x => some (Value.int x)) hnb) d_K_make_5 ?_
  refine lv_iload_n hx hb d_K_make_8 rfl (lv_at hl 1 rfl) ?_
  refine q_iast hx hb hK hP hD hS 1 0 rfl rfl nb (x := a1) (by omega) (by decide) d_K_make_9 (fun H locs hP hD hS => ?_)
  have hP : va_P D classes (wK an kn (up h 1 nb a1) o u) H := hP
  have hD : va_D A (wK an kn (up h 1 nb a1) o u) := hD
  refine lv_aload_n hx hb d_K_make_10 rfl (lv_at hl 0 rfl) ?_
  refine va_get (D := D) (ci := 4) (v := .ref (an 2)) (C := R_K) (T := F_K) (N := 22) hx hb htb iw_K hown hK hP 0 rfl rfl 8 (by decide) (htb _ mw_604) (fun _ h9 => h9) rfl d_K_make_11 ?_
  refine lv_aload_n hx hb d_K_make_14 rfl (lv_at hl 0 rfl) ?_
  refine va_get (D := D) (ci := 4) (v := .int (nI nb)) (C := R_K) (T := F_K) (N := 22) hx hb htb iw_K hown hK hP 0 rfl rfl 1 (by decide) (htb _ mw_597) (fun _ h9 => h9) (congrArg (fun x => some (Value.int x)) hnb) d_K_make_15 ?_
  refine lv_iload_n hx hb d_K_make_18 rfl (lv_at hl 2 rfl) ?_
  refine q_iast hx hb hK hP hD hS 2 1 rfl rfl nb (x := a2) (by omega) (by decide) d_K_make_19 (fun H locs hP hD hS => ?_)
  have hP : va_P D classes (wK an kn (up (up h 1 nb a1) 2 nb a2) o u) H := hP
  have hD : va_D A (wK an kn (up (up h 1 nb a1) 2 nb a2) o u) := hD
  refine lv_aload_n hx hb d_K_make_20 rfl (lv_at hl 0 rfl) ?_
  refine va_get (D := D) (ci := 4) (v := .ref (an 3)) (C := R_K) (T := F_K) (N := 22) hx hb htb iw_K hown hK hP 0 rfl rfl 9 (by decide) (htb _ mw_605) (fun _ h9 => h9) rfl d_K_make_21 ?_
  refine lv_aload_n hx hb d_K_make_24 rfl (lv_at hl 0 rfl) ?_
  refine va_get (D := D) (ci := 4) (v := .int (nI nb)) (C := R_K) (T := F_K) (N := 22) hx hb htb iw_K hown hK hP 0 rfl rfl 1 (by decide) (htb _ mw_597) (fun _ h9 => h9) (congrArg (fun x => some (Value.int x)) hnb) d_K_make_25 ?_
  refine lv_iload_n hx hb d_K_make_28 rfl (lv_at hl 3 rfl) ?_
  refine q_iast hx hb hK hP hD hS 3 2 rfl rfl nb (x := a3) (by omega) (by decide) d_K_make_29 (fun H locs hP hD hS => ?_)
  have hP : va_P D classes (wK an kn (up (up (up h 1 nb a1) 2 nb a2) 3 nb a3) o u) H := hP
  have hD : va_D A (wK an kn (up (up (up h 1 nb a1) 2 nb a2) 3 nb a3) o u) := hD
  refine lv_aload_n hx hb d_K_make_30 rfl (lv_at hl 0 rfl) ?_
  refine lv_dup hx hb d_K_make_31 rfl ?_
  refine va_get (D := D) (ci := 4) (v := .int (nI nb)) (C := R_K) (T := F_K) (N := 22) hx hb htb iw_K hown hK hP 0 rfl rfl 1 (by decide) (htb _ mw_597) (fun _ h9 => h9) (congrArg (fun x => some (Value.int x)) hnb) d_K_make_32 ?_
  refine lv_iconst (v := 1) hx hb d_K_make_35 (by decide) ?_
  refine lv_iadd hx hb d_K_make_36 ?_
  refine va_put (D := D) (ci := 4) (v := .int ((nI nb) + 1)) (ty := .int) (C := R_K) (T := F_K) (N := 22) hx hb htb iw_K t_K t_K_ok n_K hown hK hP hD hS 0 rfl rfl 1 (by decide) (htb _ mw_597) (fun _ h9 => h9) rfl (by decide +kernel) rfl rfl (Nat.le_of_ble_eq_true rfl) d_K_make_37 (fun H locs hP hD hS => ?_)
  have hP : va_P D classes (wK an kn (up (up (up h 1 nb a1) 2 nb a2) 3 nb a3) o (upd u 1 ((nI nb) + 1))) H := hP
  have hD : va_D A (wK an kn (up (up (up h 1 nb a1) 2 nb a2) 3 nb a3) o (upd u 1 ((nI nb) + 1))) := hD
  refine lv_aload_n hx hb d_K_make_40 rfl (lv_at hl 0 rfl) ?_
  refine va_get (D := D) (ci := 4) (v := .int ((nI nb) + 1)) (C := R_K) (T := F_K) (N := 22) hx hb htb iw_K hown hK hP 0 rfl rfl 1 (by decide) (htb _ mw_597) (fun _ h9 => h9) rfl d_K_make_41 ?_
  refine lv_iconst (v := 1) hx hb d_K_make_44 (by decide) ?_
  refine lv_isub hx hb d_K_make_45 ?_
  exact hret _ _ _ _ _ (Int32.add_sub_cancel _ _) hP hS d_K_make_46
set_option maxHeartbeats 4000000 in
set_option maxRecDepth 100000 in
theorem c_K_previousOf (l : Launch) (D : va_G) (an : Nat → Nat) (kn : Nat → ClassId) (h : Nat → Nat → Int32) (o : Nat → Bool) (u : Nat → Int32) (nx : Nat) (hnx : u 2 = nI nx) (hx6 : nx ≤ 60) (x : Int32) : RD l y_K_previousOf (.code y_K_previousOf b_K_previousOf 4 (some .int) :: TB) ({ frames := 0, cells := 0, slots := 0, locals := 0 } : Room) [.ref (an 0), .int x] D classes (wK an kn h o u) (tK kn) (prvR h nx x) := by
  refine rd_of (by decide +kernel) (rfl) (Nat.le_of_ble_eq_true rfl) ?_
  intro p e s m args below meth c Q ls hx hb hml htb hown hP hK hl hret
  have hl : lv_has ls 4 [(0, .ref (an 0)), (1, .int x)] := hl
  refine lv_iconst (v := (-1)) hx hb d_K_previousOf_0 (by decide) ?_
  refine lv_istore_n (lv' := [(2, .int (-1)), (0, .ref (an 0)), (1, .int x)]) hx hb d_K_previousOf_1 rfl hl (by decide) rfl (fun ls hl => ?_)
  refine lv_iconst (v := 0) hx hb d_K_previousOf_2 (by decide) ?_
  refine lv_istore_n (lv' := [(3, .int 0), (2, .int (-1)), (0, .ref (an 0)), (1, .int x)]) hx hb d_K_previousOf_3 rfl hl (by decide) rfl (fun ls hl => ?_)
  have lp4 : ∀ (n : Nat) (i : Nat) (r : Int32), i ≤ nx → nx + 1 ≤ i + n → r = lasN (fun k => decide (h 14 k = x)) i → ∀ (ls : Array Slot), lv_has ls 4 [(0, .ref (an 0)), (1, .int x), (2, .int r), (3, .int (nI i))] → W p l e ({ frames := 0, cells := 0, slots := 0, locals := 0 } : Room) s m args below meth c s.heap [] 0 0 Q (F0 m 4 ls []) := by
    intro n
    induction n with
    | zero => intro i r hi hm hf ls hl; exact absurd hm (by omega)
    | succ n ih =>
      intro i r hi hm hf ls hl
      refine lv_iload_n hx hb d_K_previousOf_4 rfl (lv_at hl 3 rfl) ?_
      refine lv_aload_n hx hb d_K_previousOf_5 rfl (lv_at hl 0 rfl) ?_
      refine va_get (D := D) (ci := 4) (v := .int (nI nx)) (C := R_K) (T := F_K) (N := 22) hx hb htb iw_K hown hK hP 0 rfl rfl 2 (by decide) (htb _ mw_598) (fun _ h9 => h9) (congrArg (fun x => some (Value.int x)) hnx) d_K_previousOf_6 ?_
      refine q_icmp_ge (a := i) (b := nx) (tgt := 34) hx hb (by omega) (by omega) d_K_previousOf_9 (by decide) (fun c1 => ?_) (fun c1 => ?_)
      · refine lv_iload_n hx hb d_K_previousOf_34 rfl (lv_at hl 2 rfl) ?_
        exact hret _ _ _ (by show r = lasN (fun k => decide (h 14 k = x)) nx; rw [show nx = i by omega, hf]) d_K_previousOf_35
      · refine lv_aload_n hx hb d_K_previousOf_12 rfl (lv_at hl 0 rfl) ?_
        refine va_get (D := D) (ci := 4) (v := .ref (an 14)) (C := R_K) (T := F_K) (N := 22) hx hb htb iw_K hown hK hP 0 rfl rfl 20 (by decide) (htb _ mw_616) (fun _ h9 => h9) rfl d_K_previousOf_13 ?_
        refine lv_iload_n hx hb d_K_previousOf_16 rfl (lv_at hl 3 rfl) ?_
        refine q_iald hx hb hK hP 14 13 rfl rfl i (by omega) (by decide) d_K_previousOf_17 ?_
        refine lv_iload_n hx hb d_K_previousOf_18 rfl (lv_at hl 1 rfl) ?_
        refine lv_icmp_ne (tgt := 26) hx hb d_K_previousOf_19 (by decide) (fun c2 => ?_) (fun c2 => ?_)
        · refine lv_iload_n hx hb d_K_previousOf_26 rfl (lv_at hl 2 rfl) ?_
          refine lv_istore_n (lv' := [(2, .int r), (0, .ref (an 0)), (1, .int x), (3, .int (nI i))]) hx hb d_K_previousOf_27 rfl hl (by decide) rfl (fun ls hl => ?_)
          refine lv_iinc (v := (nI (i + 1))) (lv' := [(3, .int (nI (i + 1))), (2, .int r), (0, .ref (an 0)), (1, .int x)]) hx hb d_K_previousOf_28 hl (k := 3) rfl (q_inc _) (by decide) rfl (fun ls hl => ?_)
          refine lv_goto (tgt := 4) hx hb d_K_previousOf_31 (by decide) ?_
          exact ih (i + 1) r (by omega) (by omega) (by rw [lasN_f (by simp [c1, c2]), hf]) _ (lv_sub hl [2, 3, 1, 0] rfl)
        · refine lv_iload_n hx hb d_K_previousOf_22 rfl (lv_at hl 3 rfl) ?_
          refine lv_goto (tgt := 27) hx hb d_K_previousOf_23 (by decide) ?_
          refine lv_istore_n (lv' := [(2, .int (nI i)), (0, .ref (an 0)), (1, .int x), (3, .int (nI i))]) hx hb d_K_previousOf_27 rfl hl (by decide) rfl (fun ls hl => ?_)
          refine lv_iinc (v := (nI (i + 1))) (lv' := [(3, .int (nI (i + 1))), (2, .int (nI i)), (0, .ref (an 0)), (1, .int x)]) hx hb d_K_previousOf_28 hl (k := 3) rfl (q_inc _) (by decide) rfl (fun ls hl => ?_)
          refine lv_goto (tgt := 4) hx hb d_K_previousOf_31 (by decide) ?_
          exact ih (i + 1) (nI i) (by omega) (by omega) (by rw [lasN_t (by simp [c1, c2])]) _ (lv_sub hl [2, 3, 1, 0] rfl)
  exact lp4 (nx + 1) 0 (-1) (Nat.zero_le _) (by omega) rfl _ (lv_sub hl [2, 3, 1, 0] rfl)
