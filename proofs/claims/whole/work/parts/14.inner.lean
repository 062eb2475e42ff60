set_option maxHeartbeats 4000000 in
set_option maxRecDepth 100000 in
theorem c_M_hasArrived (l : Launch) (D : va_G) (ad : Nat → Nat) (kd : Nat → ClassId) (g : Nat → Nat → Int32) (z : Nat → Int64) (v : Nat → Int32) (x : Int32) : RD l y_M_hasArrived (.code y_M_hasArrived b_M_hasArrived 2 (some .boolean) :: TB) ({ frames := 0, cells := 0, slots := 0, locals := 0 } : Room) [.ref (ad 0), .int x] D classes (wA ad kd g z v) (tA kd) (bI (arrS v x)) := by
  refine rd_of (by decide +kernel) (bI_nar _) (Nat.le_of_ble_eq_true rfl) ?_
  intro p e s m args below meth c Q ls hx hb hml htb hown hP hK hl hret
  have hl : lv_has ls 2 [(0, .ref (ad 0)), (1, .int x)] := hl
  refine lv_aload_n hx hb d_M_hasArrived_0 rfl (lv_at hl 0 rfl) ?_
  refine va_get (D := D) (ci := 0) (v := .int (v 0)) (C := R_M) (T := F_M) (N := 5) hx hb htb iw_M hown hK hP 0 rfl rfl 3 (by decide) (htb _ mw_164) (fun _ h9 => h9) rfl d_M_hasArrived_1 ?_
  refine lv_iconst (v := 1) hx hb d_M_hasArrived_4 (by decide) ?_
  refine lv_iload_n hx hb d_M_hasArrived_5 rfl (lv_at hl 1 rfl) ?_
  refine lv_ishl hx hb d_M_hasArrived_6 ?_
  refine lv_iand hx hb d_M_hasArrived_7 ?_
  refine lv_if_eq (tgt := 15) hx hb d_M_hasArrived_8 (by decide) (fun c1 => ?_) (fun c1 => ?_)
  · refine lv_iconst (v := 0) hx hb d_M_hasArrived_15 (by decide) ?_
    exact hret _ _ _ (by simp [arrS, bI, c1]) d_M_hasArrived_16
  · refine lv_iconst (v := 1) hx hb d_M_hasArrived_11 (by decide) ?_
    refine lv_goto (tgt := 16) hx hb d_M_hasArrived_12 (by decide) ?_
    exact hret _ _ _ (by simp [arrS, bI, c1]) d_M_hasArrived_16
set_option maxHeartbeats 4000000 in
set_option maxRecDepth 100000 in
theorem c_M_difference (l : Launch) (D : va_G) (ad : Nat → Nat) (kd : Nat → ClassId) (g : Nat → Nat → Int32) (z : Nat → Int64) (v : Nat → Int32) (nb : Nat) (hnb : v 2 = nI nb) (hb6 : nb ≤ 60) (k : Nat) (hk : k < 60) : RD l y_M_difference (.code y_M_difference b_M_difference 5 (some .int) :: TB) ({ frames := 0, cells := 0, slots := 0, locals := 0 } : Room) [.ref (ad 0), .int (nI k)] D classes (wA ad kd g z v) (tA kd) (difB g nb k) := by
  refine rd_of (by decide +kernel) (rfl) (Nat.le_of_ble_eq_true rfl) ?_
  intro p e s m args below meth c Q ls hx hb hml htb hown hP hK hl hret
  have hl : lv_has ls 5 [(0, .ref (ad 0)), (1, .int (nI k))] := hl
  refine lv_iconst (v := 0) hx hb d_M_difference_0 (by decide) ?_
  refine lv_istore_n (lv' := [(2, .int 0), (0, .ref (ad 0)), (1, .int (nI k))]) hx hb d_M_difference_1 rfl hl (by decide) rfl (fun ls hl => ?_)
  refine lv_iconst (v := 0) hx hb d_M_difference_2 (by decide) ?_
  refine lv_istore_n (lv' := [(3, .int 0), (2, .int 0), (0, .ref (ad 0)), (1, .int (nI k))]) hx hb d_M_difference_3 rfl hl (by decide) rfl (fun ls hl => ?_)
  refine lv_iconst (v := 0) hx hb d_M_difference_4 (by decide) ?_
  refine lv_istore (lv' := [(4, .int 0), (3, .int 0), (2, .int 0), (0, .ref (ad 0)), (1, .int (nI k))]) hx hb d_M_difference_5 hl (by decide) rfl (fun ls hl => ?_)
  have lp7 : ∀ (n : Nat) (i : Nat) (f : Nat) (sm : Int32), i ≤ nb → nb + 1 ≤ i + n → f = cntN (fun o => decide (g 4 o = nI k)) i → sm = sumN (fun o => if g 4 o = nI k then g 13 o else 0) i → ∀ (ls : Array Slot), lv_has ls 5 [(0, .ref (ad 0)), (1, .int (nI k)), (2, .int (nI f)), (3, .int sm), (4, .int (nI i))] → W p l e ({ frames := 0, cells := 0, slots := 0, locals := 0 } : Room) s m args below meth c s.heap [] 0 0 Q (F0 m 7 ls []) := by
    intro n
    induction n with
    | zero => intro i f sm hi hm hf hs ls hl; exact absurd hm (by omega)
    | succ n ih =>
      intro i f sm hi hm hf hs ls hl
      refine lv_iload hx hb d_M_difference_7 (lv_at hl 4 rfl) ?_
      refine lv_aload_n hx hb d_M_difference_9 rfl (lv_at hl 0 rfl) ?_
      refine va_get (D := D) (ci := 0) (v := .ref (ad 1)) (C := R_M) (T := F_M) (N := 5) hx hb htb iw_M hown hK hP 0 rfl rfl 0 (by decide) (htb _ mw_161) (fun _ h9 => h9) rfl d_M_difference_10 ?_
      refine va_get (D := D) (ci := 1) (v := .int (nI nb)) (C := R_B) (T := F_B) (N := 8) hx hb htb iw_B hown hK hP 1 rfl rfl 0 (by decide) (htb _ mw_56) (fun _ h9 => h9) (congrArg (fun x => some (Value.int x)) hnb) d_M_difference_13 ?_
      refine q_icmp_ge (a := i) (b := nb) (tgt := 55) hx hb (by omega) (by omega) d_M_difference_16 (by decide) (fun c1 => ?_) (fun c1 => ?_)
      · refine lv_iload_n hx hb d_M_difference_55 rfl (lv_at hl 2 rfl) ?_
        refine lv_if_ne (tgt := 63) hx hb d_M_difference_56 (by decide) (fun c2 => ?_) (fun c2 => ?_)
        · refine lv_aload_n hx hb d_M_difference_63 rfl (lv_at hl 0 rfl) ?_
          refine va_get (D := D) (ci := 0) (v := .ref (ad 9)) (C := R_M) (T := F_M) (N := 5) hx hb htb iw_M hown hK hP 0 rfl rfl 1 (by decide) (htb _ mw_162) (fun _ h9 => h9) rfl d_M_difference_64 ?_
          refine va_get (D := D) (ci := 2) (v := .ref (ad 13)) (C := R_N) (T := F_N) (N := 6) hx hb htb iw_N hown hK hP 9 rfl rfl 4 (by decide) (htb _ mw_102) (fun _ h9 => h9) rfl d_M_difference_67 ?_
          refine lv_iload_n hx hb d_M_difference_70 rfl (lv_at hl 1 rfl) ?_
          refine q_iald hx hb hK hP 13 10 rfl rfl k (by omega) (by decide) d_M_difference_71 ?_
          refine lv_iload_n hx hb d_M_difference_72 rfl (lv_at hl 3 rfl) ?_
          refine lv_isub hx hb d_M_difference_73 ?_
          exact hret _ _ _ (by show _ = (if cntN (fun o => decide (g 4 o = nI k)) nb = 0 then 0 else g 13 k - sumN (fun o => if g 4 o = nI k then g 13 o else 0) nb); rw [show nb = i by omega, ← hf, ← hs]; rw [if_neg (fun q => c2 (by rw [q]; rfl))]) d_M_difference_74
        · refine lv_iconst (v := 0) hx hb d_M_difference_59 (by decide) ?_
          refine lv_goto (tgt := 74) hx hb d_M_difference_60 (by decide) ?_
          exact hret _ _ _ (by show _ = (if cntN (fun o => decide (g 4 o = nI k)) nb = 0 then 0 else g 13 k - sumN (fun o => if g 4 o = nI k then g 13 o else 0) nb); rw [show nb = i by omega, ← hf, ← hs]; rw [if_pos ((nI_eq (by have := cntN_le (fun o => decide (g 4 o = nI k)) i; omega) (by decide)).mp (c2.trans nI_0.symm))]) d_M_difference_74
      · refine lv_aload_n hx hb d_M_difference_19 rfl (lv_at hl 0 rfl) ?_
        refine va_get (D := D) (ci := 0) (v := .ref (ad 1)) (C := R_M) (T := F_M) (N := 5) hx hb htb iw_M hown hK hP 0 rfl rfl 0 (by decide) (htb _ mw_161) (fun _ h9 => h9) rfl d_M_difference_20 ?_
        refine va_get (D := D) (ci := 1) (v := .ref (ad 4)) (C := R_B) (T := F_B) (N := 8) hx hb htb iw_B hown hK hP 1 rfl rfl 3 (by decide) (htb _ mw_62) (fun _ h9 => h9) rfl d_M_difference_23 ?_
        refine lv_iload hx hb d_M_difference_26 (lv_at hl 4 rfl) ?_
        refine q_iald hx hb hK hP 4 2 rfl rfl i (by omega) (by decide) d_M_difference_28 ?_
        refine lv_iload_n hx hb d_M_difference_29 rfl (lv_at hl 1 rfl) ?_
        refine lv_icmp_ne (tgt := 49) hx hb d_M_difference_30 (by decide) (fun c3 => ?_) (fun c3 => ?_)
        · refine lv_iinc (v := (nI (i + 1))) (lv' := [(4, .int (nI (i + 1))), (0, .ref (ad 0)), (1, .int (nI k)), (2, .int (nI f)), (3, .int sm)]) hx hb d_M_difference_49 hl (k := 4) rfl (q_inc _) (by decide) rfl (fun ls hl => ?_)
          refine lv_goto (tgt := 7) hx hb d_M_difference_52 (by decide) ?_
          exact ih (i + 1) f sm (by omega) (by omega) (by rw [cntN_f (by simp [c1, c3]), hf]) (by show sm = sumN (fun o => if g 4 o = nI k then g 13 o else 0) i + _; rw [← hs]; simp [c1, c3]) _ (lv_sub hl [1, 2, 3, 4, 0] rfl)
        · refine lv_iinc (v := (nI (f + 1))) (lv' := [(2, .int (nI (f + 1))), (0, .ref (ad 0)), (1, .int (nI k)), (3, .int sm), (4, .int (nI i))]) hx hb d_M_difference_33 hl (k := 2) rfl (q_inc _) (by decide) rfl (fun ls hl => ?_)
          refine lv_iload_n hx hb d_M_difference_36 rfl (lv_at hl 3 rfl) ?_
          refine lv_aload_n hx hb d_M_difference_37 rfl (lv_at hl 1 rfl) ?_
          refine va_get (D := D) (ci := 0) (v := .ref (ad 9)) (C := R_M) (T := F_M) (N := 5) hx hb htb iw_M hown hK hP 0 rfl rfl 1 (by decide) (htb _ mw_162) (fun _ h9 => h9) rfl d_M_difference_38 ?_
          refine va_get (D := D) (ci := 2) (v := .ref (ad 13)) (C := R_N) (T := F_N) (N := 6) hx hb htb iw_N hown hK hP 9 rfl rfl 4 (by decide) (htb _ mw_102) (fun _ h9 => h9) rfl d_M_difference_41 ?_
          refine lv_iload hx hb d_M_difference_44 (lv_at hl 4 rfl) ?_
          refine q_iald hx hb hK hP 13 10 rfl rfl i (by omega) (by decide) d_M_difference_46 ?_
          refine lv_iadd hx hb d_M_difference_47 ?_
          refine lv_istore_n (lv' := [(3, .int (sm + (g 13 i))), (2, .int (nI (f + 1))), (0, .ref (ad 0)), (1, .int (nI k)), (4, .int (nI i))]) hx hb d_M_difference_48 rfl hl (by decide) rfl (fun ls hl => ?_)
          refine lv_iinc (v := (nI (i + 1))) (lv' := [(4, .int (nI (i + 1))), (3, .int (sm + (g 13 i))), (2, .int (nI (f + 1))), (0, .ref (ad 0)), (1, .int (nI k))]) hx hb d_M_difference_49 hl (k := 4) rfl (q_inc _) (by decide) rfl (fun ls hl => ?_)
          refine lv_goto (tgt := 7) hx hb d_M_difference_52 (by decide) ?_
          exact ih (i + 1) (f + 1) (sm + (g 13 i)) (by omega) (by omega) (by rw [cntN_t (by simp [c1, c3]), hf]) (by show (sm + (g 13 i)) = sumN (fun o => if g 4 o = nI k then g 13 o else 0) i + _; rw [← hs]; simp [c1, c3]) _ (lv_sub hl [3, 4, 2, 1, 0] rfl)
  exact lp7 (nb + 1) 0 0 0 (Nat.zero_le _) (by omega) rfl rfl _ (lv_sub hl [3, 4, 2, 1, 0] rfl)
set_option maxHeartbeats 4000000 in
set_option maxRecDepth 100000 in
theorem c_M_someOneDiffers (l : Launch) (D : va_G) (ad : Nat → Nat) (kd : Nat → ClassId) (g : Nat → Nat → Int32) (z : Nat → Int64) (v : Nat → Int32) (nb : Nat) (hnb : v 2 = nI nb) (hb6 : nb ≤ 60) (x : Int32) : RD l y_M_someOneDiffers (.code y_M_someOneDiffers b_M_someOneDiffers 3 (some .boolean) :: TB) ({ frames := 1, cells := 0, slots := 0, locals := 24 } : Room) [.ref (ad 0), .int x] D classes (wA ad kd g z v) (tA kd) (bI (sodB g nb x)) := by
  refine rd_of (by decide +kernel) (bI_nar _) (Nat.le_of_ble_eq_true rfl) ?_
  intro p e s m args below meth c Q ls hx hb hml htb hown hP hK hl hret
  have hl : lv_has ls 3 [(0, .ref (ad 0)), (1, .int x)] := hl
  refine lv_iconst (v := 0) hx hb d_M_someOneDiffers_0 (by decide) ?_
  refine lv_istore_n (lv' := [(2, .int 0), (0, .ref (ad 0)), (1, .int x)]) hx hb d_M_someOneDiffers_1 rfl hl (by decide) rfl (fun ls hl => ?_)
  have lp2 : ∀ (n : Nat) (i : Nat), i ≤ nb → nb + 1 ≤ i + n → anyN (fun b => decide (g 6 b = x) && !decide (difB g nb b = 0)) i = false → ∀ (ls : Array Slot), lv_has ls 3 [(0, .ref (ad 0)), (1, .int x), (2, .int (nI i))] → W p l e ({ frames := 1, cells := 0, slots := 0, locals := 24 } : Room) s m args below meth c s.heap [] 0 0 Q (F0 m 2 ls []) := by
    intro n
    induction n with
    | zero => intro i hi hm hf ls hl; exact absurd hm (by omega)
    | succ n ih =>
      intro i hi hm hf ls hl
      refine lv_iload_n hx hb d_M_someOneDiffers_2 rfl (lv_at hl 2 rfl) ?_
      refine lv_aload_n hx hb d_M_someOneDiffers_3 rfl (lv_at hl 0 rfl) ?_
      refine va_get (D := D) (ci := 0) (v := .ref (ad 1)) (C := R_M) (T := F_M) (N := 5) hx hb htb iw_M hown hK hP 0 rfl rfl 0 (by decide) (htb _ mw_161) (fun _ h9 => h9) rfl d_M_someOneDiffers_4 ?_
      refine va_get (D := D) (ci := 1) (v := .int (nI nb)) (C := R_B) (T := F_B) (N := 8) hx hb htb iw_B hown hK hP 1 rfl rfl 0 (by decide) (htb _ mw_56) (fun _ h9 => h9) (congrArg (fun x => some (Value.int x)) hnb) d_M_someOneDiffers_7 ?_
      refine q_icmp_ge (a := i) (b := nb) (tgt := 42) hx hb (by omega) (by omega) d_M_someOneDiffers_10 (by decide) (fun c1 => ?_) (fun c1 => ?_)
      · refine lv_iconst (v := 0) hx hb d_M_someOneDiffers_42 (by decide) ?_
        exact hret _ _ _ (by rw [show i = nb by omega] at hf; show 0 = bI (anyN (fun b => decide (g 6 b = x) && !decide (difB g nb b = 0)) nb); rw [hf]; rfl) d_M_someOneDiffers_43
      · refine lv_aload_n hx hb d_M_someOneDiffers_13 rfl (lv_at hl 0 rfl) ?_
        refine va_get (D := D) (ci := 0) (v := .ref (ad 1)) (C := R_M) (T := F_M) (N := 5) hx hb htb iw_M hown hK hP 0 rfl rfl 0 (by decide) (htb _ mw_161) (fun _ h9 => h9) rfl d_M_someOneDiffers_14 ?_
        refine va_get (D := D) (ci := 1) (v := .ref (ad 6)) (C := R_B) (T := F_B) (N := 8) hx hb htb iw_B hown hK hP 1 rfl rfl 5 (by decide) (htb _ mw_66) (fun _ h9 => h9) rfl d_M_someOneDiffers_17 ?_
        refine lv_iload_n hx hb d_M_someOneDiffers_20 rfl (lv_at hl 2 rfl) ?_
        refine q_iald hx hb hK hP 6 4 rfl rfl i (by omega) (by decide) d_M_someOneDiffers_21 ?_
        refine lv_iload_n hx hb d_M_someOneDiffers_22 rfl (lv_at hl 1 rfl) ?_
        refine lv_icmp_ne (tgt := 36) hx hb d_M_someOneDiffers_23 (by decide) (fun c2 => ?_) (fun c2 => ?_)
        · refine lv_iinc (v := (nI (i + 1))) (lv' := [(2, .int (nI (i + 1))), (0, .ref (ad 0)), (1, .int x)]) hx hb d_M_someOneDiffers_36 hl (k := 2) rfl (q_inc _) (by decide) rfl (fun ls hl => ?_)
          refine lv_goto (tgt := 2) hx hb d_M_someOneDiffers_39 (by decide) ?_
          exact ih (i + 1) (by omega) (by omega) (by simp [anyN, hf, c1, c2]) _ (lv_sub hl [1, 2, 0] rfl)
        · refine lv_aload_n hx hb d_M_someOneDiffers_26 rfl (lv_at hl 0 rfl) ?_
          refine lv_iload_n hx hb d_M_someOneDiffers_27 rfl (lv_at hl 2 rfl) ?_
          refine rdV (As := [.int (nI i)]) (rest := []) (b := ad 0) ⟨hx, hb, hml, hown, htb⟩ (c_M_difference l D ad kd g z v nb hnb hb6 i (by omega)) (cwV (C := R_M) 1 htb (gV tb_good mw_278 mw_280 mw_3 mw_27 mw_281) rfl rfl rfl (by decide +kernel) ⟨Nat.le_of_ble_eq_true rfl, Nat.le_of_ble_eq_true rfl⟩) hP hK (va_recv hK hP (ci := 0) (q0 := 0) rfl rfl) rfl hl.1 rfl (lv_room (Nat.le_of_ble_eq_true rfl)) d_M_someOneDiffers_28 ⟨Nat.zero_le _, Nat.zero_le _⟩ ?_
          refine lv_if_eq (tgt := 36) hx hb d_M_someOneDiffers_31 (by decide) (fun c3 => ?_) (fun c3 => ?_)
          · refine lv_iinc (v := (nI (i + 1))) (lv' := [(2, .int (nI (i + 1))), (0, .ref (ad 0)), (1, .int x)]) hx hb d_M_someOneDiffers_36 hl (k := 2) rfl (q_inc _) (by decide) rfl (fun ls hl => ?_)
            refine lv_goto (tgt := 2) hx hb d_M_someOneDiffers_39 (by decide) ?_
            exact ih (i + 1) (by omega) (by omega) (by simp [anyN, hf, c1, c2, c3]) _ (lv_sub hl [1, 2, 0] rfl)
          · refine lv_iconst (v := 1) hx hb d_M_someOneDiffers_34 (by decide) ?_
            exact hret _ _ _ (by show 1 = bI (anyN (fun b => decide (g 6 b = x) && !decide (difB g nb b = 0)) nb); rw [anyN_hit (i := i) (by simp [c1, c2, c3]) (by omega)]; rfl) d_M_someOneDiffers_35
  exact lp2 (nb + 1) 0 (Nat.zero_le _) (by omega) rfl _ (lv_sub hl [1, 2, 0] rfl)
set_option maxHeartbeats 4000000 in
set_option maxRecDepth 100000 in
theorem c_M_mastersThatDiffer (l : Launch) (D : va_G) (ad : Nat → Nat) (kd : Nat → ClassId) (g : Nat → Nat → Int32) (z : Nat → Int64) (v : Nat → Int32) (nb : Nat) (hnb : v 2 = nI nb) (hb6 : nb ≤ 60) : RD l y_M_mastersThatDiffer (.code y_M_mastersThatDiffer b_M_mastersThatDiffer 3 (some .int) :: TB) ({ frames := 2, cells := 0, slots := 0, locals := 46 } : Room) [.ref (ad 0)] D classes (wA ad kd g z v) (tA kd) (nI (mtdB g nb)) := by
  refine rd_of (by decide +kernel) (rfl) (Nat.le_of_ble_eq_true rfl) ?_
  intro p e s m args below meth c Q ls hx hb hml htb hown hP hK hl hret
  have hl : lv_has ls 3 [(0, .ref (ad 0))] := hl
  refine lv_iconst (v := 0) hx hb d_M_mastersThatDiffer_0 (by decide) ?_
  refine lv_istore_n (lv' := [(1, .int 0), (0, .ref (ad 0))]) hx hb d_M_mastersThatDiffer_1 rfl hl (by decide) rfl (fun ls hl => ?_)
  refine lv_iconst (v := 0) hx hb d_M_mastersThatDiffer_2 (by decide) ?_
  refine lv_istore_n (lv' := [(2, .int 0), (1, .int 0), (0, .ref (ad 0))]) hx hb d_M_mastersThatDiffer_3 rfl hl (by decide) rfl (fun ls hl => ?_)
  have lp4 : ∀ (n : Nat) (i : Nat) (f : Nat), i ≤ nb → nb + 1 ≤ i + n → f = cntN (fun b => decide (g 6 b = nI b) && sodB g nb (nI b)) i → ∀ (ls : Array Slot), lv_has ls 3 [(0, .ref (ad 0)), (1, .int (nI f)), (2, .int (nI i))] → W p l e ({ frames := 2, cells := 0, slots := 0, locals := 46 } : Room) s m args below meth c s.heap [] 0 0 Q (F0 m 4 ls []) := by
    intro n
    induction n with
    | zero => intro i f hi hm hf ls hl; exact absurd hm (by omega)
    | succ n ih =>
      intro i f hi hm hf ls hl
      refine lv_iload_n hx hb d_M_mastersThatDiffer_4 rfl (lv_at hl 2 rfl) ?_
      refine lv_aload_n hx hb d_M_mastersThatDiffer_5 rfl (lv_at hl 0 rfl) ?_
      refine va_get (D := D) (ci := 0) (v := .ref (ad 1)) (C := R_M) (T := F_M) (N := 5) hx hb htb iw_M hown hK hP 0 rfl rfl 0 (by decide) (htb _ mw_161) (fun _ h9 => h9) rfl d_M_mastersThatDiffer_6 ?_
      refine va_get (D := D) (ci := 1) (v := .int (nI nb)) (C := R_B) (T := F_B) (N := 8) hx hb htb iw_B hown hK hP 1 rfl rfl 0 (by decide) (htb _ mw_56) (fun _ h9 => h9) (congrArg (fun x => some (Value.int x)) hnb) d_M_mastersThatDiffer_9 ?_
      refine q_icmp_ge (a := i) (b := nb) (tgt := 45) hx hb (by omega) (by omega) d_M_mastersThatDiffer_12 (by decide) (fun c1 => ?_) (fun c1 => ?_)
      · refine lv_iload_n hx hb d_M_mastersThatDiffer_45 rfl (lv_at hl 1 rfl) ?_
        exact hret _ _ _ (by rw [show i = nb by omega] at hf; rw [hf]; rfl) d_M_mastersThatDiffer_46
      · refine lv_aload_n hx hb d_M_mastersThatDiffer_15 rfl (lv_at hl 0 rfl) ?_
        refine va_get (D := D) (ci := 0) (v := .ref (ad 1)) (C := R_M) (T := F_M) (N := 5) hx hb htb iw_M hown hK hP 0 rfl rfl 0 (by decide) (htb _ mw_161) (fun _ h9 => h9) rfl d_M_mastersThatDiffer_16 ?_
        refine va_get (D := D) (ci := 1) (v := .ref (ad 6)) (C := R_B) (T := F_B) (N := 8) hx hb htb iw_B hown hK hP 1 rfl rfl 5 (by decide) (htb _ mw_66) (fun _ h9 => h9) rfl d_M_mastersThatDiffer_19 ?_
        refine lv_iload_n hx hb d_M_mastersThatDiffer_22 rfl (lv_at hl 2 rfl) ?_
        refine q_iald hx hb hK hP 6 4 rfl rfl i (by omega) (by decide) d_M_mastersThatDiffer_23 ?_
        refine lv_iload_n hx hb d_M_mastersThatDiffer_24 rfl (lv_at hl 2 rfl) ?_
        refine lv_icmp_ne (tgt := 39) hx hb d_M_mastersThatDiffer_25 (by decide) (fun c2 => ?_) (fun c2 => ?_)
        · refine lv_iinc (v := (nI (i + 1))) (lv' := [(2, .int (nI (i + 1))), (0, .ref (ad 0)), (1, .int (nI f))]) hx hb d_M_mastersThatDiffer_39 hl (k := 2) rfl (q_inc _) (by decide) rfl (fun ls hl => ?_)
          refine lv_goto (tgt := 4) hx hb d_M_mastersThatDiffer_42 (by decide) ?_
          exact ih (i + 1) f (by omega) (by omega) (by rw [cntN_f (by simp [c1, c2]), hf]) _ (lv_sub hl [1, 2, 0] rfl)
        · refine lv_aload_n hx hb d_M_mastersThatDiffer_28 rfl (lv_at hl 0 rfl) ?_
          refine lv_iload_n hx hb d_M_mastersThatDiffer_29 rfl (lv_at hl 2 rfl) ?_
          refine rdV (As := [.int (nI i)]) (rest := []) (b := ad 0) ⟨hx, hb, hml, hown, htb⟩ (c_M_someOneDiffers l D ad kd g z v nb hnb hb6 (nI i)) (cwV (C := R_M) 1 htb (gV tb_good mw_274 mw_276 mw_2 mw_27 mw_277) rfl rfl rfl (by decide +kernel) ⟨Nat.le_of_ble_eq_true rfl, Nat.le_of_ble_eq_true rfl⟩) hP hK (va_recv hK hP (ci := 0) (q0 := 0) rfl rfl) rfl hl.1 rfl (lv_room (Nat.le_of_ble_eq_true rfl)) d_M_mastersThatDiffer_30 ⟨Nat.zero_le _, Nat.zero_le _⟩ ?_
          refine lv_if_eq (tgt := 39) hx hb d_M_mastersThatDiffer_33 (by decide) (fun c3 => ?_) (fun c3 => ?_)
          · replace c3 := bI_f c3
            refine lv_iinc (v := (nI (i + 1))) (lv' := [(2, .int (nI (i + 1))), (0, .ref (ad 0)), (1, .int (nI f))]) hx hb d_M_mastersThatDiffer_39 hl (k := 2) rfl (q_inc _) (by decide) rfl (fun ls hl => ?_)
            refine lv_goto (tgt := 4) hx hb d_M_mastersThatDiffer_42 (by decide) ?_
            exact ih (i + 1) f (by omega) (by omega) (by rw [cntN_f (by simp [c1, c2, c3]), hf]) _ (lv_sub hl [1, 2, 0] rfl)
          · replace c3 := bI_t c3
            refine lv_iinc (v := (nI (f + 1))) (lv' := [(1, .int (nI (f + 1))), (0, .ref (ad 0)), (2, .int (nI i))]) hx hb d_M_mastersThatDiffer_36 hl (k := 1) rfl (q_inc _) (by decide) rfl (fun ls hl => ?_)
            refine lv_iinc (v := (nI (i + 1))) (lv' := [(2, .int (nI (i + 1))), (1, .int (nI (f + 1))), (0, .ref (ad 0))]) hx hb d_M_mastersThatDiffer_39 hl (k := 2) rfl (q_inc _) (by decide) rfl (fun ls hl => ?_)
            refine lv_goto (tgt := 4) hx hb d_M_mastersThatDiffer_42 (by decide) ?_
            exact ih (i + 1) (f + 1) (by omega) (by omega) (by rw [cntN_t (by simp [c1, c2, c3]), hf]) _ (lv_sub hl [2, 1, 0] rfl)
  exact lp4 (nb + 1) 0 0 (Nat.zero_le _) (by omega) rfl _ (lv_sub hl [2, 1, 0] rfl)
