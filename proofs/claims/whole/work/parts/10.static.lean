set_option maxHeartbeats 4000000 in
set_option maxRecDepth 100000 in
theorem c_J_bitCount (l : Launch) (D : va_G) (w : va_W) (tys : List (ClassId × FieldType)) (x : Int64) : RD l y_J_bitCount (.code y_J_bitCount b_J_bitCount 2 (some .int) :: TB) ({ frames := 0, cells := 0, slots := 0, locals := 0 } : Room) [.long x] D classes w tys (nI (popc x)) := by
  refine rd_of (by decide +kernel) (rfl) (Nat.le_of_ble_eq_true rfl) ?_
  intro p e s m args below meth c Q ls hx hb hml htb hown hP hK hl hret
  have hl : lv_has ls 2 [(0, .long x)] := hl
  refine lv_lload_n hx hb d_J_bitCount_0 rfl (lv_at hl 0 rfl) ?_
  refine lv_lload_n hx hb d_J_bitCount_1 rfl (lv_at hl 0 rfl) ?_
  refine lv_iconst (v := 1) hx hb d_J_bitCount_2 (by decide) ?_
  refine lv_lushr (v := ((x).toUInt64 >>> ((1 : Int32).toInt64.toUInt64 &&& Int64.toUInt64 63)).toInt64) hx hb d_J_bitCount_3 rfl ?_
  refine lv_ldc2 (v := 6148914691236517205) hx hb hown (htb _ mw_200) d_J_bitCount_4 ?_
  refine lv_land hx hb d_J_bitCount_7 ?_
  refine lv_lsub hx hb d_J_bitCount_8 ?_
  refine lv_topl (fun y1 ey1 => ?_)
  refine lv_lstore_n (lv' := [(0, .long y1)]) hx hb d_J_bitCount_9 rfl hl (by decide) rfl (fun ls hl => ?_)
  refine lv_lload_n hx hb d_J_bitCount_10 rfl (lv_at hl 0 rfl) ?_
  refine lv_ldc2 (v := 3689348814741910323) hx hb hown (htb _ mw_201) d_J_bitCount_11 ?_
  refine lv_land hx hb d_J_bitCount_14 ?_
  refine lv_lload_n hx hb d_J_bitCount_15 rfl (lv_at hl 0 rfl) ?_
  refine lv_iconst (v := 2) hx hb d_J_bitCount_16 (by decide) ?_
  refine lv_lushr (v := ((y1).toUInt64 >>> ((2 : Int32).toInt64.toUInt64 &&& Int64.toUInt64 63)).toInt64) hx hb d_J_bitCount_17 rfl ?_
  refine lv_ldc2 (v := 3689348814741910323) hx hb hown (htb _ mw_201) d_J_bitCount_18 ?_
  refine lv_land hx hb d_J_bitCount_21 ?_
  refine lv_ladd hx hb d_J_bitCount_22 ?_
  refine lv_topl (fun y2 ey2 => ?_)
  refine lv_lstore_n (lv' := [(0, .long y2)]) hx hb d_J_bitCount_23 rfl hl (by decide) rfl (fun ls hl => ?_)
  refine lv_lload_n hx hb d_J_bitCount_24 rfl (lv_at hl 0 rfl) ?_
  refine lv_lload_n hx hb d_J_bitCount_25 rfl (lv_at hl 0 rfl) ?_
  refine lv_iconst (v := 4) hx hb d_J_bitCount_26 (by decide) ?_
  refine lv_lushr (v := ((y2).toUInt64 >>> ((4 : Int32).toInt64.toUInt64 &&& Int64.toUInt64 63)).toInt64) hx hb d_J_bitCount_27 rfl ?_
  refine lv_ladd hx hb d_J_bitCount_28 ?_
  refine lv_ldc2 (v := 1085102592571150095) hx hb hown (htb _ mw_202) d_J_bitCount_29 ?_
  refine lv_land hx hb d_J_bitCount_32 ?_
  refine lv_topl (fun y3 ey3 => ?_)
  refine lv_lstore_n (lv' := [(0, .long y3)]) hx hb d_J_bitCount_33 rfl hl (by decide) rfl (fun ls hl => ?_)
  refine lv_lload_n hx hb d_J_bitCount_34 rfl (lv_at hl 0 rfl) ?_
  refine lv_lload_n hx hb d_J_bitCount_35 rfl (lv_at hl 0 rfl) ?_
  refine lv_bipush (v := 8) hx hb d_J_bitCount_36 (by decide) ?_
  refine lv_lushr (v := ((y3).toUInt64 >>> ((8 : Int32).toInt64.toUInt64 &&& Int64.toUInt64 63)).toInt64) hx hb d_J_bitCount_38 rfl ?_
  refine lv_ladd hx hb d_J_bitCount_39 ?_
  refine lv_topl (fun y4 ey4 => ?_)
  refine lv_lstore_n (lv' := [(0, .long y4)]) hx hb d_J_bitCount_40 rfl hl (by decide) rfl (fun ls hl => ?_)
  refine lv_lload_n hx hb d_J_bitCount_41 rfl (lv_at hl 0 rfl) ?_
  refine lv_lload_n hx hb d_J_bitCount_42 rfl (lv_at hl 0 rfl) ?_
  refine lv_bipush (v := 16) hx hb d_J_bitCount_43 (by decide) ?_
  refine lv_lushr (v := ((y4).toUInt64 >>> ((16 : Int32).toInt64.toUInt64 &&& Int64.toUInt64 63)).toInt64) hx hb d_J_bitCount_45 rfl ?_
  refine lv_ladd hx hb d_J_bitCount_46 ?_
  refine lv_topl (fun y5 ey5 => ?_)
  refine lv_lstore_n (lv' := [(0, .long y5)]) hx hb d_J_bitCount_47 rfl hl (by decide) rfl (fun ls hl => ?_)
  refine lv_lload_n hx hb d_J_bitCount_48 rfl (lv_at hl 0 rfl) ?_
  refine lv_lload_n hx hb d_J_bitCount_49 rfl (lv_at hl 0 rfl) ?_
  refine lv_bipush (v := 32) hx hb d_J_bitCount_50 (by decide) ?_
  refine lv_lushr (v := ((y5).toUInt64 >>> ((32 : Int32).toInt64.toUInt64 &&& Int64.toUInt64 63)).toInt64) hx hb d_J_bitCount_52 rfl ?_
  refine lv_ladd hx hb d_J_bitCount_53 ?_
  refine lv_topl (fun y6 ey6 => ?_)
  refine lv_lstore_n (lv' := [(0, .long y6)]) hx hb d_J_bitCount_54 rfl hl (by decide) rfl (fun ls hl => ?_)
  refine lv_lload_n hx hb d_J_bitCount_55 rfl (lv_at hl 0 rfl) ?_
  refine lv_l2i (v := (y6).toInt32) hx hb d_J_bitCount_56 rfl ?_
  refine lv_bipush (v := 127) hx hb d_J_bitCount_57 (by decide) ?_
  refine lv_iand hx hb d_J_bitCount_59 ?_
  exact hret _ _ _ (bc_eq x y1 y2 y3 y4 y5 y6 ey1 ey2 ey3 ey4 ey5 ey6) d_J_bitCount_60
set_option maxHeartbeats 4000000 in
set_option maxRecDepth 100000 in
theorem c_M_isCall (l : Launch) (D : va_G) (w : va_W) (tys : List (ClassId × FieldType)) (x : Int32) : RD l y_M_isCall (.code y_M_isCall b_M_isCall 1 (some .boolean) :: TB) ({ frames := 0, cells := 0, slots := 0, locals := 0 } : Room) [.int x] D classes w tys (bI (isCallS x)) := by
  refine rd_of (by decide +kernel) (bI_nar _) (Nat.le_of_ble_eq_true rfl) ?_
  intro p e s m args below meth c Q ls hx hb hml htb hown hP hK hl hret
  have hl : lv_has ls 1 [(0, .int x)] := hl
  refine lv_iload_n hx hb d_M_isCall_0 rfl (lv_at hl 0 rfl) ?_
  refine lv_if_lt (tgt := 13) hx hb d_M_isCall_1 (by decide) (fun c1 => ?_) (fun c1 => ?_)
  · refine lv_iconst (v := 0) hx hb d_M_isCall_13 (by decide) ?_
    exact hret _ _ _ (by simp [isCallS, bI, c1]) d_M_isCall_14
  · refine lv_iload_n hx hb d_M_isCall_4 rfl (lv_at hl 0 rfl) ?_
    refine lv_iconst (v := 4) hx hb d_M_isCall_5 (by decide) ?_
    refine lv_icmp_ge (tgt := 13) hx hb d_M_isCall_6 (by decide) (fun c2 => ?_) (fun c2 => ?_)
    · refine lv_iconst (v := 0) hx hb d_M_isCall_13 (by decide) ?_
      exact hret _ _ _ (by simp [isCallS, bI, c1, c2]) d_M_isCall_14
    · refine lv_iconst (v := 1) hx hb d_M_isCall_9 (by decide) ?_
      refine lv_goto (tgt := 14) hx hb d_M_isCall_10 (by decide) ?_
      exact hret _ _ _ (by simp [isCallS, bI, c1, c2]) d_M_isCall_14
set_option maxHeartbeats 4000000 in
set_option maxRecDepth 100000 in
theorem c_M_isNumber (l : Launch) (D : va_G) (w : va_W) (tys : List (ClassId × FieldType)) (x : Int32) : RD l y_M_isNumber (.code y_M_isNumber b_M_isNumber 1 (some .boolean) :: TB) ({ frames := 0, cells := 0, slots := 0, locals := 0 } : Room) [.int x] D classes w tys (bI (isNumS x)) := by
  refine rd_of (by decide +kernel) (bI_nar _) (Nat.le_of_ble_eq_true rfl) ?_
  intro p e s m args below meth c Q ls hx hb hml htb hown hP hK hl hret
  have hl : lv_has ls 1 [(0, .int x)] := hl
  refine lv_iload_n hx hb d_M_isNumber_0 rfl (lv_at hl 0 rfl) ?_
  refine lv_if_lt (tgt := 15) hx hb d_M_isNumber_1 (by decide) (fun c1 => ?_) (fun c1 => ?_)
  · refine lv_iconst (v := 0) hx hb d_M_isNumber_15 (by decide) ?_
    exact hret _ _ _ (by simp [isNumS, bI, c1]) d_M_isNumber_16
  · refine lv_iload_n hx hb d_M_isNumber_4 rfl (lv_at hl 0 rfl) ?_
    refine lv_ldcw (v := 99999999) hx hb hown (htb _ mw_294) d_M_isNumber_5 ?_
    refine lv_icmp_gt (tgt := 15) hx hb d_M_isNumber_8 (by decide) (fun c2 => ?_) (fun c2 => ?_)
    · refine lv_iconst (v := 0) hx hb d_M_isNumber_15 (by decide) ?_
      exact hret _ _ _ (by simp [isNumS, bI, c1, c2]) d_M_isNumber_16
    · refine lv_iconst (v := 1) hx hb d_M_isNumber_11 (by decide) ?_
      refine lv_goto (tgt := 16) hx hb d_M_isNumber_12 (by decide) ?_
      exact hret _ _ _ (by simp [isNumS, bI, c1, c2]) d_M_isNumber_16
set_option maxHeartbeats 4000000 in
set_option maxRecDepth 100000 in
theorem c_M_isWeight (l : Launch) (D : va_G) (w : va_W) (tys : List (ClassId × FieldType)) (x : Int32) : RD l y_M_isWeight (.code y_M_isWeight b_M_isWeight 1 (some .boolean) :: TB) ({ frames := 0, cells := 0, slots := 0, locals := 0 } : Room) [.int x] D classes w tys (bI (isWtS x)) := by
  refine rd_of (by decide +kernel) (bI_nar _) (Nat.le_of_ble_eq_true rfl) ?_
  intro p e s m args below meth c Q ls hx hb hml htb hown hP hK hl hret
  have hl : lv_has ls 1 [(0, .int x)] := hl
  refine lv_iload_n hx hb d_M_isWeight_0 rfl (lv_at hl 0 rfl) ?_
  refine lv_if_lt (tgt := 15) hx hb d_M_isWeight_1 (by decide) (fun c1 => ?_) (fun c1 => ?_)
  · refine lv_iconst (v := 0) hx hb d_M_isWeight_15 (by decide) ?_
    exact hret _ _ _ (by simp [isWtS, bI, c1]) d_M_isWeight_16
  · refine lv_iload_n hx hb d_M_isWeight_4 rfl (lv_at hl 0 rfl) ?_
    refine lv_ldcw (v := 1000000) hx hb hown (htb _ mw_222) d_M_isWeight_5 ?_
    refine lv_icmp_gt (tgt := 15) hx hb d_M_isWeight_8 (by decide) (fun c2 => ?_) (fun c2 => ?_)
    · refine lv_iconst (v := 0) hx hb d_M_isWeight_15 (by decide) ?_
      exact hret _ _ _ (by simp [isWtS, bI, c1, c2]) d_M_isWeight_16
    · refine lv_iconst (v := 1) hx hb d_M_isWeight_11 (by decide) ?_
      refine lv_goto (tgt := 16) hx hb d_M_isWeight_12 (by decide) ?_
      exact hret _ _ _ (by simp [isWtS, bI, c1, c2]) d_M_isWeight_16
set_option maxHeartbeats 4000000 in
set_option maxRecDepth 100000 in
theorem c_M_isHolder (l : Launch) (D : va_G) (w : va_W) (tys : List (ClassId × FieldType)) (x : Int32) : RD l y_M_isHolder (.code y_M_isHolder b_M_isHolder 1 (some .boolean) :: TB) ({ frames := 0, cells := 0, slots := 0, locals := 0 } : Room) [.int x] D classes w tys (bI (isHoS x)) := by
  refine rd_of (by decide +kernel) (bI_nar _) (Nat.le_of_ble_eq_true rfl) ?_
  intro p e s m args below meth c Q ls hx hb hml htb hown hP hK hl hret
  have hl : lv_has ls 1 [(0, .int x)] := hl
  refine lv_iload_n hx hb d_M_isHolder_0 rfl (lv_at hl 0 rfl) ?_
  refine lv_if_lt (tgt := 14) hx hb d_M_isHolder_1 (by decide) (fun c1 => ?_) (fun c1 => ?_)
  · refine lv_iconst (v := 0) hx hb d_M_isHolder_14 (by decide) ?_
    exact hret _ _ _ (by simp [isHoS, bI, c1]) d_M_isHolder_15
  · refine lv_iload_n hx hb d_M_isHolder_4 rfl (lv_at hl 0 rfl) ?_
    refine lv_bipush (v := 10) hx hb d_M_isHolder_5 (by decide) ?_
    refine lv_icmp_ge (tgt := 14) hx hb d_M_isHolder_7 (by decide) (fun c2 => ?_) (fun c2 => ?_)
    · refine lv_iconst (v := 0) hx hb d_M_isHolder_14 (by decide) ?_
      exact hret _ _ _ (by simp [isHoS, bI, c1, c2]) d_M_isHolder_15
    · refine lv_iconst (v := 1) hx hb d_M_isHolder_10 (by decide) ?_
      refine lv_goto (tgt := 15) hx hb d_M_isHolder_11 (by decide) ?_
      exact hret _ _ _ (by simp [isHoS, bI, c1, c2]) d_M_isHolder_15
set_option maxHeartbeats 4000000 in
set_option maxRecDepth 100000 in
theorem c_M_areAlike (l : Launch) (D : va_G) (w : va_W) (tys : List (ClassId × FieldType)) (a0 b0 : Nat) (ha0 : a0 < 100000000) (hb0 : b0 < 100000000) : RD l y_M_areAlike (.code y_M_areAlike b_M_areAlike 5 (some .boolean) :: TB) ({ frames := 0, cells := 0, slots := 0, locals := 0 } : Room) [.int (nI a0), .int (nI b0)] D classes w tys (bI (alkL 8 a0 b0)) := by
  refine rd_of (by decide +kernel) (bI_nar _) (Nat.le_of_ble_eq_true rfl) ?_
  intro p e s m args below meth c Q ls hx hb hml htb hown hP hK hl hret
  have hl : lv_has ls 5 [(0, .int (nI a0)), (1, .int (nI b0))] := hl
  refine lv_iload_n hx hb d_M_areAlike_0 rfl (lv_at hl 0 rfl) ?_
  refine lv_istore_n (lv' := [(2, .int (nI a0)), (0, .int (nI a0)), (1, .int (nI b0))]) hx hb d_M_areAlike_1 rfl hl (by decide) rfl (fun ls hl => ?_)
  refine lv_iload_n hx hb d_M_areAlike_2 rfl (lv_at hl 2 rfl) ?_
  refine lv_istore_n (lv' := [(3, .int (nI b0)), (2, .int (nI a0)), (0, .int (nI a0)), (1, .int (nI b0))]) hx hb d_M_areAlike_3 rfl hl (by decide) rfl (fun ls hl => ?_)
  refine lv_iconst (v := 0) hx hb d_M_areAlike_4 (by decide) ?_
  refine lv_istore (lv' := [(4, .int 0), (3, .int (nI b0)), (2, .int (nI a0)), (0, .int (nI a0)), (1, .int (nI b0))]) hx hb d_M_areAlike_5 hl (by decide) rfl (fun ls hl => ?_)
  have lp7 : ∀ (n : Nat) (i a b : Nat), i ≤ 8 → 9 ≤ i + n → a < 100000000 → b < 100000000 → alkL (8 - i) a b = alkL 8 a0 b0 → ∀ (ls : Array Slot), lv_has ls 5 [(2, .int (nI a)), (3, .int (nI b)), (4, .int (nI i))] → W p l e ({ frames := 0, cells := 0, slots := 0, locals := 0 } : Room) s m args below meth c s.heap [] 0 0 Q (F0 m 7 ls []) := by
    intro n
    induction n with
    | zero => intro i a b hi hm ha9 hb9 hf ls hl; exact absurd hm (by omega)
    | succ n ih =>
      intro i a b hi hm ha9 hb9 hf ls hl
      refine lv_iload hx hb d_M_areAlike_7 (lv_at hl 2 rfl) ?_
      refine lv_bipush (v := 8) hx hb d_M_areAlike_9 (by decide) ?_
      refine q_icmp_ge (a := i) (b := 8) (tgt := 41) hx hb (by omega) (by omega) d_M_areAlike_11 (by decide) (fun c1 => ?_) (fun c1 => ?_)
      · have he : alkE a b = alkL 8 a0 b0 := by rw [← hf, show 8 - i = 0 by omega]; rfl
        refine lv_iload_n hx hb d_M_areAlike_41 rfl (lv_at hl 0 rfl) ?_
        refine lv_bipush (v := 10) hx hb d_M_areAlike_42 (by decide) ?_
        refine lv_idiv hx hb d_M_areAlike_44 (by decide) ?_
        refine W.eq (congrArg (fun z => F0 m 45 ls (.int z :: [])) (show ((nI a) / 10) = (nI (a / 10)) from pk_div (d := 10) (by omega) (by decide) (by decide))) ?_
        refine lv_iload_n hx hb d_M_areAlike_45 rfl (lv_at hl 1 rfl) ?_
        refine lv_bipush (v := 10) hx hb d_M_areAlike_46 (by decide) ?_
        refine lv_idiv hx hb d_M_areAlike_48 (by decide) ?_
        refine W.eq (congrArg (fun z => F0 m 49 ls (.int z :: [.int (nI (a / 10))])) (show ((nI b) / 10) = (nI (b / 10)) from pk_div (d := 10) (by omega) (by decide) (by decide))) ?_
        refine q_icmp_ne (a := (a / 10)) (b := (b / 10)) (tgt := 54) hx hb (by omega) (by omega) d_M_areAlike_49 (by decide) (fun c2 => ?_) (fun c2 => ?_)
        · refine lv_iload_n hx hb d_M_areAlike_54 rfl (lv_at hl 0 rfl) ?_
          refine lv_bipush (v := 10) hx hb d_M_areAlike_55 (by decide) ?_
          refine lv_irem hx hb d_M_areAlike_57 (by decide) ?_
          refine W.eq (congrArg (fun z => F0 m 58 ls (.int z :: [])) (show ((nI a) - (nI a) / 10 * 10) = (nI (a % 10)) from pk_rem (d := 10) (by omega) (by decide) (by decide))) ?_
          refine lv_iload_n hx hb d_M_areAlike_58 rfl (lv_at hl 1 rfl) ?_
          refine lv_bipush (v := 10) hx hb d_M_areAlike_59 (by decide) ?_
          refine lv_idiv hx hb d_M_areAlike_61 (by decide) ?_
          refine W.eq (congrArg (fun z => F0 m 62 ls (.int z :: [.int (nI (a % 10))])) (show ((nI b) / 10) = (nI (b / 10)) from pk_div (d := 10) (by omega) (by decide) (by decide))) ?_
          refine lv_bipush (v := 10) hx hb d_M_areAlike_62 (by decide) ?_
          refine lv_irem hx hb d_M_areAlike_64 (by decide) ?_
          refine W.eq (congrArg (fun z => F0 m 65 ls (.int z :: [.int (nI (a % 10))])) (show ((nI (b / 10)) - (nI (b / 10)) / 10 * 10) = (nI ((b / 10) % 10)) from pk_rem (d := 10) (by omega) (by decide) (by decide))) ?_
          refine q_icmp_ne (a := (a % 10)) (b := ((b / 10) % 10)) (tgt := 97) hx hb (by omega) (by omega) d_M_areAlike_65 (by decide) (fun c3 => ?_) (fun c3 => ?_)
          · refine lv_iconst (v := 0) hx hb d_M_areAlike_97 (by decide) ?_
            exact hret _ _ _ (by rw [← he]; simp [alkE, bI, c1, c2, c3]) d_M_areAlike_98
          · refine lv_iload_n hx hb d_M_areAlike_68 rfl (lv_at hl 0 rfl) ?_
            refine lv_bipush (v := 10) hx hb d_M_areAlike_69 (by decide) ?_
            refine lv_idiv hx hb d_M_areAlike_71 (by decide) ?_
            refine W.eq (congrArg (fun z => F0 m 72 ls (.int z :: [])) (show ((nI a) / 10) = (nI (a / 10)) from pk_div (d := 10) (by omega) (by decide) (by decide))) ?_
            refine lv_bipush (v := 10) hx hb d_M_areAlike_72 (by decide) ?_
            refine lv_irem hx hb d_M_areAlike_74 (by decide) ?_
            refine W.eq (congrArg (fun z => F0 m 75 ls (.int z :: [])) (show ((nI (a / 10)) - (nI (a / 10)) / 10 * 10) = (nI ((a / 10) % 10)) from pk_rem (d := 10) (by omega) (by decide) (by decide))) ?_
            refine lv_iload_n hx hb d_M_areAlike_75 rfl (lv_at hl 1 rfl) ?_
            refine lv_bipush (v := 10) hx hb d_M_areAlike_76 (by decide) ?_
            refine lv_irem hx hb d_M_areAlike_78 (by decide) ?_
            refine W.eq (congrArg (fun z => F0 m 79 ls (.int z :: [.int (nI ((a / 10) % 10))])) (show ((nI b) - (nI b) / 10 * 10) = (nI (b % 10)) from pk_rem (d := 10) (by omega) (by decide) (by decide))) ?_
            refine q_icmp_ne (a := ((a / 10) % 10)) (b := (b % 10)) (tgt := 97) hx hb (by omega) (by omega) d_M_areAlike_79 (by decide) (fun c4 => ?_) (fun c4 => ?_)
            · refine lv_iconst (v := 0) hx hb d_M_areAlike_97 (by decide) ?_
              exact hret _ _ _ (by rw [← he]; simp [alkE, bI, c1, c2, c3, c4]) d_M_areAlike_98
            · refine lv_iload_n hx hb d_M_areAlike_82 rfl (lv_at hl 0 rfl) ?_
              refine lv_bipush (v := 100) hx hb d_M_areAlike_83 (by decide) ?_
              refine lv_idiv hx hb d_M_areAlike_85 (by decide) ?_
              refine W.eq (congrArg (fun z => F0 m 86 ls (.int z :: [])) (show ((nI a) / 100) = (nI (a / 100)) from pk_div (d := 100) (by omega) (by decide) (by decide))) ?_
              refine lv_iload_n hx hb d_M_areAlike_86 rfl (lv_at hl 1 rfl) ?_
              refine lv_bipush (v := 100) hx hb d_M_areAlike_87 (by decide) ?_
              refine lv_idiv hx hb d_M_areAlike_89 (by decide) ?_
              refine W.eq (congrArg (fun z => F0 m 90 ls (.int z :: [.int (nI (a / 100))])) (show ((nI b) / 100) = (nI (b / 100)) from pk_div (d := 100) (by omega) (by decide) (by decide))) ?_
              refine q_icmp_ne (a := (a / 100)) (b := (b / 100)) (tgt := 97) hx hb (by omega) (by omega) d_M_areAlike_90 (by decide) (fun c5 => ?_) (fun c5 => ?_)
              · refine lv_iconst (v := 0) hx hb d_M_areAlike_97 (by decide) ?_
                exact hret _ _ _ (by rw [← he]; simp [alkE, bI, c1, c2, c3, c4, c5]) d_M_areAlike_98
              · refine lv_iconst (v := 1) hx hb d_M_areAlike_93 (by decide) ?_
                refine lv_goto (tgt := 98) hx hb d_M_areAlike_94 (by decide) ?_
                exact hret _ _ _ (by rw [← he]; simp [alkE, bI, c1, c2, c3, c4, c5]) d_M_areAlike_98
        · refine lv_iconst (v := 1) hx hb d_M_areAlike_52 (by decide) ?_
          exact hret _ _ _ (by rw [← he]; simp [alkE, bI, c1, c2]) d_M_areAlike_53
      · refine lv_iload_n hx hb d_M_areAlike_14 rfl (lv_at hl 0 rfl) ?_
        refine lv_bipush (v := 10) hx hb d_M_areAlike_15 (by decide) ?_
        refine lv_irem hx hb d_M_areAlike_17 (by decide) ?_
        refine W.eq (congrArg (fun z => F0 m 18 ls (.int z :: [])) (show ((nI a) - (nI a) / 10 * 10) = (nI (a % 10)) from pk_rem (d := 10) (by omega) (by decide) (by decide))) ?_
        refine lv_iload_n hx hb d_M_areAlike_18 rfl (lv_at hl 1 rfl) ?_
        refine lv_bipush (v := 10) hx hb d_M_areAlike_19 (by decide) ?_
        refine lv_irem hx hb d_M_areAlike_21 (by decide) ?_
        refine W.eq (congrArg (fun z => F0 m 22 ls (.int z :: [.int (nI (a % 10))])) (show ((nI b) - (nI b) / 10 * 10) = (nI (b % 10)) from pk_rem (d := 10) (by omega) (by decide) (by decide))) ?_
        refine q_icmp_ne (a := (a % 10)) (b := (b % 10)) (tgt := 41) hx hb (by omega) (by omega) d_M_areAlike_22 (by decide) (fun c6 => ?_) (fun c6 => ?_)
        · have he : alkE a b = alkL 8 a0 b0 := by rw [← hf, show 8 - i = (8 - (i + 1)) + 1 by omega]; exact (if_neg c6).symm
          refine lv_iload_n hx hb d_M_areAlike_41 rfl (lv_at hl 0 rfl) ?_
          refine lv_bipush (v := 10) hx hb d_M_areAlike_42 (by decide) ?_
          refine lv_idiv hx hb d_M_areAlike_44 (by decide) ?_
          refine W.eq (congrArg (fun z => F0 m 45 ls (.int z :: [])) (show ((nI a) / 10) = (nI (a / 10)) from pk_div (d := 10) (by omega) (by decide) (by decide))) ?_
          refine lv_iload_n hx hb d_M_areAlike_45 rfl (lv_at hl 1 rfl) ?_
          refine lv_bipush (v := 10) hx hb d_M_areAlike_46 (by decide) ?_
          refine lv_idiv hx hb d_M_areAlike_48 (by decide) ?_
          refine W.eq (congrArg (fun z => F0 m 49 ls (.int z :: [.int (nI (a / 10))])) (show ((nI b) / 10) = (nI (b / 10)) from pk_div (d := 10) (by omega) (by decide) (by decide))) ?_
          refine q_icmp_ne (a := (a / 10)) (b := (b / 10)) (tgt := 54) hx hb (by omega) (by omega) d_M_areAlike_49 (by decide) (fun c7 => ?_) (fun c7 => ?_)
          · refine lv_iload_n hx hb d_M_areAlike_54 rfl (lv_at hl 0 rfl) ?_
            refine lv_bipush (v := 10) hx hb d_M_areAlike_55 (by decide) ?_
            refine lv_irem hx hb d_M_areAlike_57 (by decide) ?_
            refine W.eq (congrArg (fun z => F0 m 58 ls (.int z :: [])) (show ((nI a) - (nI a) / 10 * 10) = (nI (a % 10)) from pk_rem (d := 10) (by omega) (by decide) (by decide))) ?_
            refine lv_iload_n hx hb d_M_areAlike_58 rfl (lv_at hl 1 rfl) ?_
            refine lv_bipush (v := 10) hx hb d_M_areAlike_59 (by decide) ?_
            refine lv_idiv hx hb d_M_areAlike_61 (by decide) ?_
            refine W.eq (congrArg (fun z => F0 m 62 ls (.int z :: [.int (nI (a % 10))])) (show ((nI b) / 10) = (nI (b / 10)) from pk_div (d := 10) (by omega) (by decide) (by decide))) ?_
            refine lv_bipush (v := 10) hx hb d_M_areAlike_62 (by decide) ?_
            refine lv_irem hx hb d_M_areAlike_64 (by decide) ?_
            refine W.eq (congrArg (fun z => F0 m 65 ls (.int z :: [.int (nI (a % 10))])) (show ((nI (b / 10)) - (nI (b / 10)) / 10 * 10) = (nI ((b / 10) % 10)) from pk_rem (d := 10) (by omega) (by decide) (by decide))) ?_
            refine q_icmp_ne (a := (a % 10)) (b := ((b / 10) % 10)) (tgt := 97) hx hb (by omega) (by omega) d_M_areAlike_65 (by decide) (fun c8 => ?_) (fun c8 => ?_)
            · refine lv_iconst (v := 0) hx hb d_M_areAlike_97 (by decide) ?_
              exact hret _ _ _ (by rw [← he]; simp [alkE, bI, c1, c6, c7, c8]) d_M_areAlike_98
            · refine lv_iload_n hx hb d_M_areAlike_68 rfl (lv_at hl 0 rfl) ?_
              refine lv_bipush (v := 10) hx hb d_M_areAlike_69 (by decide) ?_
              refine lv_idiv hx hb d_M_areAlike_71 (by decide) ?_
              refine W.eq (congrArg (fun z => F0 m 72 ls (.int z :: [])) (show ((nI a) / 10) = (nI (a / 10)) from pk_div (d := 10) (by omega) (by decide) (by decide))) ?_
              refine lv_bipush (v := 10) hx hb d_M_areAlike_72 (by decide) ?_
              refine lv_irem hx hb d_M_areAlike_74 (by decide) ?_
              refine W.eq (congrArg (fun z => F0 m 75 ls (.int z :: [])) (show ((nI (a / 10)) - (nI (a / 10)) / 10 * 10) = (nI ((a / 10) % 10)) from pk_rem (d := 10) (by omega) (by decide) (by decide))) ?_
              refine lv_iload_n hx hb d_M_areAlike_75 rfl (lv_at hl 1 rfl) ?_
              refine lv_bipush (v := 10) hx hb d_M_areAlike_76 (by decide) ?_
              refine lv_irem hx hb d_M_areAlike_78 (by decide) ?_
              refine W.eq (congrArg (fun z => F0 m 79 ls (.int z :: [.int (nI ((a / 10) % 10))])) (show ((nI b) - (nI b) / 10 * 10) = (nI (b % 10)) from pk_rem (d := 10) (by omega) (by decide) (by decide))) ?_
              refine q_icmp_ne (a := ((a / 10) % 10)) (b := (b % 10)) (tgt := 97) hx hb (by omega) (by omega) d_M_areAlike_79 (by decide) (fun c9 => ?_) (fun c9 => ?_)
              · refine lv_iconst (v := 0) hx hb d_M_areAlike_97 (by decide) ?_
                exact hret _ _ _ (by rw [← he]; simp [alkE, bI, c1, c6, c7, c8, c9]) d_M_areAlike_98
              · refine lv_iload_n hx hb d_M_areAlike_82 rfl (lv_at hl 0 rfl) ?_
                refine lv_bipush (v := 100) hx hb d_M_areAlike_83 (by decide) ?_
                refine lv_idiv hx hb d_M_areAlike_85 (by decide) ?_
                refine W.eq (congrArg (fun z => F0 m 86 ls (.int z :: [])) (show ((nI a) / 100) = (nI (a / 100)) from pk_div (d := 100) (by omega) (by decide) (by decide))) ?_
                refine lv_iload_n hx hb d_M_areAlike_86 rfl (lv_at hl 1 rfl) ?_
                refine lv_bipush (v := 100) hx hb d_M_areAlike_87 (by decide) ?_
                refine lv_idiv hx hb d_M_areAlike_89 (by decide) ?_
                refine W.eq (congrArg (fun z => F0 m 90 ls (.int z :: [.int (nI (a / 100))])) (show ((nI b) / 100) = (nI (b / 100)) from pk_div (d := 100) (by omega) (by decide) (by decide))) ?_
                refine q_icmp_ne (a := (a / 100)) (b := (b / 100)) (tgt := 97) hx hb (by omega) (by omega) d_M_areAlike_90 (by decide) (fun c10 => ?_) (fun c10 => ?_)
                · refine lv_iconst (v := 0) hx hb d_M_areAlike_97 (by decide) ?_
                  exact hret _ _ _ (by rw [← he]; simp [alkE, bI, c1, c6, c7, c8, c9, c10]) d_M_areAlike_98
                · refine lv_iconst (v := 1) hx hb d_M_areAlike_93 (by decide) ?_
                  refine lv_goto (tgt := 98) hx hb d_M_areAlike_94 (by decide) ?_
                  exact hret _ _ _ (by rw [← he]; simp [alkE, bI, c1, c6, c7, c8, c9, c10]) d_M_areAlike_98
          · refine lv_iconst (v := 1) hx hb d_M_areAlike_52 (by decide) ?_
            exact hret _ _ _ (by rw [← he]; simp [alkE, bI, c1, c6, c7]) d_M_areAlike_53
        · refine lv_iload_n hx hb d_M_areAlike_25 rfl (lv_at hl 0 rfl) ?_
          refine lv_bipush (v := 10) hx hb d_M_areAlike_26 (by decide) ?_
          refine lv_idiv hx hb d_M_areAlike_28 (by decide) ?_
          refine W.eq (congrArg (fun z => F0 m 29 ls (.int z :: [])) (show ((nI a) / 10) = (nI (a / 10)) from pk_div (d := 10) (by omega) (by decide) (by decide))) ?_
          refine lv_istore_n (lv' := [(2, .int (nI (a / 10))), (3, .int (nI b)), (4, .int (nI i))]) hx hb d_M_areAlike_29 rfl hl (by decide) rfl (fun ls hl => ?_)
          refine lv_iload_n hx hb d_M_areAlike_30 rfl (lv_at hl 1 rfl) ?_
          refine lv_bipush (v := 10) hx hb d_M_areAlike_31 (by decide) ?_
          refine lv_idiv hx hb d_M_areAlike_33 (by decide) ?_
          refine W.eq (congrArg (fun z => F0 m 34 ls (.int z :: [])) (show ((nI b) / 10) = (nI (b / 10)) from pk_div (d := 10) (by omega) (by decide) (by decide))) ?_
          refine lv_istore_n (lv' := [(3, .int (nI (b / 10))), (2, .int (nI (a / 10))), (4, .int (nI i))]) hx hb d_M_areAlike_34 rfl hl (by decide) rfl (fun ls hl => ?_)
          refine lv_iinc (v := (nI (i + 1))) (lv' := [(4, .int (nI (i + 1))), (3, .int (nI (b / 10))), (2, .int (nI (a / 10)))]) hx hb d_M_areAlike_35 hl (k := 2) rfl (q_inc _) (by decide) rfl (fun ls hl => ?_)
          refine lv_goto (tgt := 7) hx hb d_M_areAlike_38 (by decide) ?_
          exact ih (i + 1) (a / 10) (b / 10) (by omega) (by omega) (by omega) (by omega) (by rw [← hf, show 8 - i = (8 - (i + 1)) + 1 by omega]; exact (if_pos c6).symm) _ (lv_sub hl [2, 1, 0] rfl)
  exact lp7 9 0 a0 b0 (by omega) (by omega) ha0 hb0 rfl _ (lv_sub hl [2, 1, 0] rfl)
