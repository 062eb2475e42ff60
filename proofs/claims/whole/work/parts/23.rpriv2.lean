set_option maxHeartbeats 4000000 in
set_option maxRecDepth 100000 in
theorem c_K_add (l : Launch) (D : va_G) (an : Nat → Nat) (kn : Nat → ClassId) (h : Nat → Nat → Int32) (o : Nat → Bool) (u : Nat → Int32) (nl : Nat) (hnl : u 3 = nI nl) (hl2 : nl ≤ 200) (hlt : nl < 200) (x y q : Int32) : WRi l y_K_add (.code y_K_add b_K_add 4 (some .int) :: TB) ({ frames := 1, cells := 0, slots := 0, locals := 23 } : Room) [.ref (an 0), .int x, .int y, .int q] D classes (wK an kn h o u) (wK an kn (adlR h nl x y q) o (upd u 3 (nI nl + 1))) (tK kn) (nI (lofR (adlR h nl x y q) (nl + 1) x) - 1) := by
  refine wr_of (by decide +kernel) (rfl) (Nat.le_of_ble_eq_true rfl) ?_
  intro p e s m args below meth c Q ls A hx hb hml htb hown hP hK hD hS hA hl hret
  have hl : lv_has ls 4 [(0, .ref (an 0)), (1, .int x), (2, .int y), (3, .int q)] := hl
  refine lv_aload_n hx hb d_K_add_0 rfl (lv_at hl 0 rfl) ?_
  refine va_get (D := D) (ci := 4) (v := .ref (an 6)) (C := R_K) (T := F_K) (N := 22) hx hb htb iw_K hown hK hP 0 rfl rfl 12 (by decide) (htb _ mw_608) (fun _ h9 => h9) rfl d_K_add_1 ?_
  refine lv_aload_n hx hb d_K_add_4 rfl (lv_at hl 0 rfl) ?_
  refine va_get (D := D) (ci := 4) (v := .int (nI nl)) (C := R_K) (T := F_K) (N := 22) hx hb htb iw_K hown hK hP 0 rfl rfl 3 (by decide) (htb _ mw_599) (fun _ h9 => h9) (congrArg (fun x => some (Value.int x)) hnl) d_K_add_5 ?_
  refine lv_iload_n hx hb d_K_add_8 rfl (lv_at hl 1 rfl) ?_
  refine q_iast hx hb hK hP hD hS 6 5 rfl rfl nl (x := x) (by omega) (by decide) d_K_add_9 (fun H locs hP hD hS => ?_)
  have hP : va_P D classes (wK an kn (up h 6 nl x) o u) H := hP
  have hD : va_D A (wK an kn (up h 6 nl x) o u) := hD
  refine lv_aload_n hx hb d_K_add_10 rfl (lv_at hl 0 rfl) ?_
  refine va_get (D := D) (ci := 4) (v := .ref (an 7)) (C := R_K) (T := F_K) (N := 22) hx hb htb iw_K hown hK hP 0 rfl rfl 13 (by decide) (htb _ mw_609) (fun _ h9 => h9) rfl d_K_add_11 ?_
  refine lv_aload_n hx hb d_K_add_14 rfl (lv_at hl 0 rfl) ?_
  refine va_get (D := D) (ci := 4) (v := .int (nI nl)) (C := R_K) (T := F_K) (N := 22) hx hb htb iw_K hown hK hP 0 rfl rfl 3 (by decide) (htb _ mw_599) (fun _ h9 => h9) (congrArg (fun x => some (Value.int x)) hnl) d_K_add_15 ?_
  refine lv_iload_n hx hb d_K_add_18 rfl (lv_at hl 2 rfl) ?_
  refine q_iast hx hb hK hP hD hS 7 6 rfl rfl nl (x := y) (by omega) (by decide) d_K_add_19 (fun H locs hP hD hS => ?_)
  have hP : va_P D classes (wK an kn (up (up h 6 nl x) 7 nl y) o u) H := hP
  have hD : va_D A (wK an kn (up (up h 6 nl x) 7 nl y) o u) := hD
  refine lv_aload_n hx hb d_K_add_20 rfl (lv_at hl 0 rfl) ?_
  refine va_get (D := D) (ci := 4) (v := .ref (an 8)) (C := R_K) (T := F_K) (N := 22) hx hb htb iw_K hown hK hP 0 rfl rfl 14 (by decide) (htb _ mw_610) (fun _ h9 => h9) rfl d_K_add_21 ?_
  refine lv_aload_n hx hb d_K_add_24 rfl (lv_at hl 0 rfl) ?_
  refine va_get (D := D) (ci := 4) (v := .int (nI nl)) (C := R_K) (T := F_K) (N := 22) hx hb htb iw_K hown hK hP 0 rfl rfl 3 (by decide) (htb _ mw_599) (fun _ h9 => h9) (congrArg (fun x => some (Value.int x)) hnl) d_K_add_25 ?_
  refine lv_iload_n hx hb d_K_add_28 rfl (lv_at hl 3 rfl) ?_
  refine q_iast hx hb hK hP hD hS 8 7 rfl rfl nl (x := q) (by omega) (by decide) d_K_add_29 (fun H locs hP hD hS => ?_)
  have hP : va_P D classes (wK an kn (up (up (up h 6 nl x) 7 nl y) 8 nl q) o u) H := hP
  have hD : va_D A (wK an kn (up (up (up h 6 nl x) 7 nl y) 8 nl q) o u) := hD
  refine lv_aload_n hx hb d_K_add_30 rfl (lv_at hl 0 rfl) ?_
  refine lv_dup hx hb d_K_add_31 rfl ?_
  refine va_get (D := D) (ci := 4) (v := .int (nI nl)) (C := R_K) (T := F_K) (N := 22) hx hb htb iw_K hown hK hP 0 rfl rfl 3 (by decide) (htb _ mw_599) (fun _ h9 => h9) (congrArg (fun x => some (Value.int x)) hnl) d_K_add_32 ?_
  refine lv_iconst (v := 1) hx hb d_K_add_35 (by decide) ?_
  refine lv_iadd hx hb d_K_add_36 ?_
  refine va_put (D := D) (ci := 4) (v := .int ((nI nl) + 1)) (ty := .int) (C := R_K) (T := F_K) (N := 22) hx hb htb iw_K t_K t_K_ok n_K hown hK hP hD hS 0 rfl rfl 3 (by decide) (htb _ mw_599) (fun _ h9 => h9) rfl (by decide +kernel) rfl rfl (Nat.le_of_ble_eq_true rfl) d_K_add_37 (fun H locs hP hD hS => ?_)
  have hP : va_P D classes (wK an kn (up (up (up h 6 nl x) 7 nl y) 8 nl q) o (upd u 3 ((nI nl) + 1))) H := hP
  have hD : va_D A (wK an kn (up (up (up h 6 nl x) 7 nl y) 8 nl q) o (upd u 3 ((nI nl) + 1))) := hD
  refine lv_aload_n hx hb d_K_add_40 rfl (lv_at hl 0 rfl) ?_
  refine lv_iload_n hx hb d_K_add_41 rfl (lv_at hl 1 rfl) ?_
  refine rdV (As := [.int x]) (rest := []) (b := an 0) ⟨hx, hb, hml, hown, htb⟩ (c_K_linesOf l D an kn (up (up (up h 6 nl x) 7 nl y) 8 nl q) o (upd u 3 ((nI nl) + 1)) (nl + 1) (show (upd u 3 ((nI nl) + 1)) 3 = nI (nl + 1) from nI_1 nl) (by omega) x) (cwV (C := R_K) 1 htb (gV tb_good mw_701 mw_703 mw_10 mw_31 mw_704) rfl rfl rfl (by decide +kernel) ⟨Nat.le_of_ble_eq_true rfl, Nat.le_of_ble_eq_true rfl⟩) hP hK (va_recv hK hP (ci := 4) (q0 := 0) rfl rfl) rfl hl.1 rfl (lv_room (Nat.le_of_ble_eq_true rfl)) d_K_add_42 ⟨Nat.zero_le _, Nat.zero_le _⟩ ?_
  refine lv_iconst (v := 1) hx hb d_K_add_45 (by decide) ?_
  refine lv_isub hx hb d_K_add_46 ?_
  exact hret _ _ _ _ _ rfl hP hS d_K_add_47
set_option maxHeartbeats 4000000 in
set_option maxRecDepth 100000 in
theorem c_K_lineAt (l : Launch) (D : va_G) (an : Nat → Nat) (kn : Nat → ClassId) (h : Nat → Nat → Int32) (o : Nat → Bool) (u : Nat → Int32) (nl : Nat) (hnl : u 3 = nI nl) (hl2 : nl ≤ 200) (x : Int32) (q m9 : Nat) (hq : q < nl) (hpq : h 6 q = x) (hcq : cntN (fun k => decide (h 6 k = x)) q = m9) : RD l y_K_lineAt (.code y_K_lineAt b_K_lineAt 5 (some .int) :: TB) ({ frames := 0, cells := 0, slots := 0, locals := 0 } : Room) [.ref (an 0), .int x, .int (nI m9)] D classes (wK an kn h o u) (tK kn) (nI q) := by
  refine rd_of (by decide +kernel) (rfl) (Nat.le_of_ble_eq_true rfl) ?_
  intro p e s m args below meth c Q ls hx hb hml htb hown hP hK hl hret
  have hl : lv_has ls 5 [(0, .ref (an 0)), (1, .int x), (2, .int (nI m9))] := hl
  refine lv_iload_n hx hb d_K_lineAt_0 rfl (lv_at hl 2 rfl) ?_
  refine lv_istore_n (lv' := [(3, .int (nI m9)), (0, .ref (an 0)), (1, .int x), (2, .int (nI m9))]) hx hb d_K_lineAt_1 rfl hl (by decide) rfl (fun ls hl => ?_)
  refine lv_iconst (v := 0) hx hb d_K_lineAt_2 (by decide) ?_
  refine lv_istore (lv' := [(4, .int 0), (3, .int (nI m9)), (0, .ref (an 0)), (1, .int x), (2, .int (nI m9))]) hx hb d_K_lineAt_3 hl (by decide) rfl (fun ls hl => ?_)
  have lp5 : ∀ (n : Nat) (k lf : Nat), k ≤ q → q + 1 ≤ k + n → lf + cntN (fun k => decide (h 6 k = x)) k = m9 → ∀ (ls : Array Slot), lv_has ls 5 [(0, .ref (an 0)), (1, .int x), (3, .int (nI lf)), (4, .int (nI k))] → W p l e ({ frames := 0, cells := 0, slots := 0, locals := 0 } : Room) s m args below meth c s.heap [] 0 0 Q (F0 m 5 ls []) := by
    intro n
    induction n with
    | zero => intro k lf hk hm hlf ls hl; exact absurd hm (by omega)
    | succ n ih =>
      intro k lf hk hm hlf ls hl
      refine lv_aload_n hx hb d_K_lineAt_5 rfl (lv_at hl 0 rfl) ?_
      refine va_get (D := D) (ci := 4) (v := .ref (an 6)) (C := R_K) (T := F_K) (N := 22) hx hb htb iw_K hown hK hP 0 rfl rfl 12 (by decide) (htb _ mw_608) (fun _ h9 => h9) rfl d_K_lineAt_6 ?_
      refine lv_iload hx hb d_K_lineAt_9 (lv_at hl 3 rfl) ?_
      refine q_iald hx hb hK hP 6 5 rfl rfl k (by omega) (by decide) d_K_lineAt_11 ?_
      refine lv_iload_n hx hb d_K_lineAt_12 rfl (lv_at hl 1 rfl) ?_
      refine lv_icmp_ne (tgt := 20) hx hb d_K_lineAt_13 (by decide) (fun c1 => ?_) (fun c1 => ?_)
      · have hkq : k < q := by
          rcases Nat.lt_or_ge k q with z9 | z9
          · exact z9
          · exact absurd (by rw [show k = q by omega]; exact hpq) c1
        refine lv_iload_n hx hb d_K_lineAt_20 rfl (lv_at hl 2 rfl) ?_
        refine lv_aload_n hx hb d_K_lineAt_21 rfl (lv_at hl 0 rfl) ?_
        refine va_get (D := D) (ci := 4) (v := .ref (an 6)) (C := R_K) (T := F_K) (N := 22) hx hb htb iw_K hown hK hP 0 rfl rfl 12 (by decide) (htb _ mw_608) (fun _ h9 => h9) rfl d_K_lineAt_22 ?_
        refine lv_iload hx hb d_K_lineAt_25 (lv_at hl 3 rfl) ?_
        refine q_iald hx hb hK hP 6 5 rfl rfl k (by omega) (by decide) d_K_lineAt_27 ?_
        refine lv_iload_n hx hb d_K_lineAt_28 rfl (lv_at hl 1 rfl) ?_
        refine lv_icmp_ne (tgt := 36) hx hb d_K_lineAt_29 (by decide) (fun c2 => ?_) (fun c2 => ?_)
        · refine lv_iconst (v := 0) hx hb d_K_lineAt_36 (by decide) ?_
          refine lv_isub hx hb d_K_lineAt_37 ?_
          refine W.eq (congrArg (fun z => F0 m 38 ls (.int z :: [])) (show ((nI lf) - 0) = (nI lf) from Int32.sub_zero _)) ?_
          refine lv_istore_n (lv' := [(3, .int (nI lf)), (0, .ref (an 0)), (1, .int x), (4, .int (nI k))]) hx hb d_K_lineAt_38 rfl hl (by decide) rfl (fun ls hl => ?_)
          refine lv_iinc (v := (nI (k + 1))) (lv' := [(4, .int (nI (k + 1))), (3, .int (nI lf)), (0, .ref (an 0)), (1, .int x)]) hx hb d_K_lineAt_39 hl (k := 3) rfl (q_inc _) (by decide) rfl (fun ls hl => ?_)
          refine lv_goto (tgt := 5) hx hb d_K_lineAt_42 (by decide) ?_
          exact ih (k + 1) lf (by omega) (by omega) (by rw [cntN_f (by simp [c1])]; exact hlf) _ (lv_sub hl [2, 3, 1, 0] rfl)
        · exact absurd c2 c1
      · have hct : cntN (fun k => decide (h 6 k = x)) (k + 1) = cntN (fun k => decide (h 6 k = x)) k + 1 := cntN_t (by simp [c1])
        refine lv_iload_n hx hb d_K_lineAt_16 rfl (lv_at hl 2 rfl) ?_
        refine lv_if_le (tgt := 45) hx hb d_K_lineAt_17 (by decide) (fun c3 => ?_) (fun c3 => ?_)
        · have hkq : k = q := by
            rcases Nat.lt_or_ge k q with z9 | z9
            · have z8 := cntN_mono (P := (fun k => decide (h 6 k = x))) (show k + 1 ≤ q by omega)
              have z7 : lf = 0 := by
                rcases Nat.eq_zero_or_pos lf with z6 | z6
                · exact z6
                · exact absurd c3 (nI_nle z6 (by have := cntN_le (fun k => decide (h 6 k = x)) q; omega))
              omega
            · omega
          refine lv_iload hx hb d_K_lineAt_45 (lv_at hl 3 rfl) ?_
          exact hret _ _ _ (by rw [hkq]) d_K_lineAt_47
        · have hlp : 0 < lf := by
            rcases Nat.eq_zero_or_pos lf with z6 | z6
            · exact absurd (by rw [z6]; decide) c3
            · exact z6
          have hkq : k < q := by
            rcases Nat.lt_or_ge k q with z9 | z9
            · exact z9
            · rw [show k = q by omega] at hlf; omega
          refine lv_iload_n hx hb d_K_lineAt_20 rfl (lv_at hl 2 rfl) ?_
          refine lv_aload_n hx hb d_K_lineAt_21 rfl (lv_at hl 0 rfl) ?_
          refine va_get (D := D) (ci := 4) (v := .ref (an 6)) (C := R_K) (T := F_K) (N := 22) hx hb htb iw_K hown hK hP 0 rfl rfl 12 (by decide) (htb _ mw_608) (fun _ h9 => h9) rfl d_K_lineAt_22 ?_
          refine lv_iload hx hb d_K_lineAt_25 (lv_at hl 3 rfl) ?_
          refine q_iald hx hb hK hP 6 5 rfl rfl k (by omega) (by decide) d_K_lineAt_27 ?_
          refine lv_iload_n hx hb d_K_lineAt_28 rfl (lv_at hl 1 rfl) ?_
          refine lv_icmp_ne (tgt := 36) hx hb d_K_lineAt_29 (by decide) (fun c4 => ?_) (fun c4 => ?_)
          · exact absurd c1 c4
          · refine lv_iconst (v := 1) hx hb d_K_lineAt_32 (by decide) ?_
            refine lv_goto (tgt := 37) hx hb d_K_lineAt_33 (by decide) ?_
            refine lv_isub hx hb d_K_lineAt_37 ?_
            refine W.eq (congrArg (fun z => F0 m 38 ls (.int z :: [])) (show ((nI lf) - 1) = (nI (lf - 1)) from pk_sub (a := lf) (b := 1) (by omega))) ?_
            refine lv_istore_n (lv' := [(3, .int (nI (lf - 1))), (0, .ref (an 0)), (1, .int x), (4, .int (nI k))]) hx hb d_K_lineAt_38 rfl hl (by decide) rfl (fun ls hl => ?_)
            refine lv_iinc (v := (nI (k + 1))) (lv' := [(4, .int (nI (k + 1))), (3, .int (nI (lf - 1))), (0, .ref (an 0)), (1, .int x)]) hx hb d_K_lineAt_39 hl (k := 3) rfl (q_inc _) (by decide) rfl (fun ls hl => ?_)
            refine lv_goto (tgt := 5) hx hb d_K_lineAt_42 (by decide) ?_
            exact ih (k + 1) (lf - 1) (by omega) (by omega) (by rw [hct]; omega) _ (lv_sub hl [2, 3, 1, 0] rfl)
  exact lp5 (q + 1) 0 m9 (Nat.zero_le _) (by omega) rfl _ (lv_sub hl [2, 3, 1, 0] rfl)
set_option maxHeartbeats 4000000 in
set_option maxRecDepth 100000 in
theorem c_K_firstOf (l : Launch) (D : va_G) (an : Nat → Nat) (kn : Nat → ClassId) (h : Nat → Nat → Int32) (o : Nat → Bool) (u : Nat → Int32) (nx : Nat) (hnx : u 2 = nI nx) (hx6 : nx ≤ 60) (rk : Nat → Nat) (hrk : rkOk h nx rk) (b : Nat) (hb9 : b < nx) : RD l y_K_firstOf (.code y_K_firstOf b_K_firstOf 3 (some .int) :: TB) ({ frames := 1, cells := 0, slots := 0, locals := 23 } : Room) [.ref (an 0), .int (nI b)] D classes (wK an kn h o u) (tK kn) (nI (firR h nx 60 b)) := by
  refine rd_of (by decide +kernel) (rfl) (Nat.le_of_ble_eq_true rfl) ?_
  intro p e s m args below meth c Q ls hx hb hml htb hown hP hK hl hret
  have hl : lv_has ls 3 [(0, .ref (an 0)), (1, .int (nI b))] := hl
  refine lv_iload_n hx hb d_K_firstOf_0 rfl (lv_at hl 1 rfl) ?_
  refine lv_istore_n (lv' := [(2, .int (nI b)), (0, .ref (an 0)), (1, .int (nI b))]) hx hb d_K_firstOf_1 rfl hl (by decide) rfl (fun ls hl => ?_)
  have lp2 : ∀ (n : Nat) (f k : Nat), k < nx → rk k < f → rk k + 1 ≤ n → firR h nx f k = firR h nx 60 b → ∀ (ls : Array Slot), lv_has ls 3 [(0, .ref (an 0)), (2, .int (nI k))] → W p l e ({ frames := 1, cells := 0, slots := 0, locals := 23 } : Room) s m args below meth c s.heap [] 0 0 Q (F0 m 2 ls []) := by
    intro n
    induction n with
    | zero => intro f k hk hkf hm hf ls hl; exact absurd hm (by omega)
    | succ n ih =>
      intro f k hk hkf hm hf ls hl
      refine lv_aload_n hx hb d_K_firstOf_2 rfl (lv_at hl 0 rfl) ?_
      refine lv_iload_n hx hb d_K_firstOf_3 rfl (lv_at hl 1 rfl) ?_
      refine rdV (As := [.int (nI k)]) (rest := []) (b := an 0) ⟨hx, hb, hml, hown, htb⟩ (c_K_previousOf l D an kn h o u nx hnx hx6 (nI k)) (cwV (C := R_K) 1 htb (gV tb_good mw_769 mw_771 mw_17 mw_31 mw_772) rfl rfl rfl (by decide +kernel) ⟨Nat.le_of_ble_eq_true rfl, Nat.le_of_ble_eq_true rfl⟩) hP hK (va_recv hK hP (ci := 4) (q0 := 0) rfl rfl) rfl hl.1 rfl (lv_room (Nat.le_of_ble_eq_true rfl)) d_K_firstOf_4 ⟨Nat.zero_le _, Nat.zero_le _⟩ ?_
      refine lv_if_lt (tgt := 19) hx hb d_K_firstOf_7 (by decide) (fun c1 => ?_) (fun c1 => ?_)
      · refine lv_iload_n hx hb d_K_firstOf_19 rfl (lv_at hl 1 rfl) ?_
        exact hret _ _ _ (by rw [← hf, firR_neg hkf c1]) d_K_firstOf_20
      · obtain ⟨j, hj, hpj, ej⟩ := lasN_ix (by omega) c1
        have hrj := (hrk k hk).2 j hj ej
        obtain ⟨f, rfl⟩ : ∃ q, f = q + 1 := ⟨f - 1, by omega⟩
        refine lv_aload_n hx hb d_K_firstOf_10 rfl (lv_at hl 0 rfl) ?_
        refine lv_iload_n hx hb d_K_firstOf_11 rfl (lv_at hl 1 rfl) ?_
        refine rdV (As := [.int (nI k)]) (rest := []) (b := an 0) ⟨hx, hb, hml, hown, htb⟩ (c_K_previousOf l D an kn h o u nx hnx hx6 (nI k)) (cwV (C := R_K) 1 htb (gV tb_good mw_769 mw_771 mw_17 mw_31 mw_772) rfl rfl rfl (by decide +kernel) ⟨Nat.le_of_ble_eq_true rfl, Nat.le_of_ble_eq_true rfl⟩) hP hK (va_recv hK hP (ci := 4) (q0 := 0) rfl rfl) rfl hl.1 rfl (lv_room (Nat.le_of_ble_eq_true rfl)) d_K_firstOf_12 ⟨Nat.zero_le _, Nat.zero_le _⟩ ?_
        refine W.eq (congrArg (fun z => F0 m 15 ls (.int z :: [])) (show (prvR h nx (nI k)) = (nI j) from ej)) ?_
        refine lv_istore_n (lv' := [(2, .int (nI j)), (0, .ref (an 0))]) hx hb d_K_firstOf_15 rfl hl (by decide) rfl (fun ls hl => ?_)
        refine lv_goto (tgt := 2) hx hb d_K_firstOf_16 (by decide) ?_
        exact ih f j (by omega) (by omega) (by omega) (by rw [← hf]; show _ = (if prvR h nx (nI k) < 0 then k else firR h nx f (ix (prvR h nx (nI k)))); rw [if_neg c1, show prvR h nx (nI k) = nI j from ej, ix_nI (by omega)]) _ (lv_sub hl [1, 0] rfl)
  exact lp2 (rk b + 1) 60 b hb9 (hrk b hb9).1 (Nat.le_refl _) rfl _ (lv_sub hl [1, 0] rfl)
set_option maxHeartbeats 4000000 in
set_option maxRecDepth 100000 in
theorem c_K_landedWeight (l : Launch) (D : va_G) (an : Nat → Nat) (kn : Nat → ClassId) (h : Nat → Nat → Int32) (o : Nat → Bool) (u : Nat → Int32) (nb : Nat) (hnb : u 1 = nI nb) (hb6 : nb ≤ 60) (nx : Nat) (hnx : u 2 = nI nx) (hx6 : nx ≤ 60) (b : Nat) (hb9 : b < nb) : RD l y_K_landedWeight (.code y_K_landedWeight b_K_landedWeight 6 (some .int) :: TB) ({ frames := 2, cells := 0, slots := 0, locals := 45 } : Room) [.ref (an 0), .int (nI b)] D classes (wK an kn h o u) (tK kn) (lwtR h o nb nx b) := by
  refine rd_of (by decide +kernel) (rfl) (Nat.le_of_ble_eq_true rfl) ?_
  intro p e s m args below meth c Q ls hx hb hml htb hown hP hK hl hret
  have hl : lv_has ls 6 [(0, .ref (an 0)), (1, .int (nI b))] := hl
  refine lv_iconst (v := 0) hx hb d_K_landedWeight_0 (by decide) ?_
  refine lv_istore_n (lv' := [(2, .int 0), (0, .ref (an 0)), (1, .int (nI b))]) hx hb d_K_landedWeight_1 rfl hl (by decide) rfl (fun ls hl => ?_)
  refine lv_iconst (v := 0) hx hb d_K_landedWeight_2 (by decide) ?_
  refine lv_istore_n (lv' := [(3, .int 0), (2, .int 0), (0, .ref (an 0)), (1, .int (nI b))]) hx hb d_K_landedWeight_3 rfl hl (by decide) rfl (fun ls hl => ?_)
  have lp4 : ∀ (n : Nat) (i : Nat) (sm : Int32), i ≤ nx → nx + 1 ≤ i + n → sm = sumN (lshR h o nb b) i → ∀ (ls : Array Slot), lv_has ls 6 [(0, .ref (an 0)), (1, .int (nI b)), (2, .int sm), (3, .int (nI i))] → W p l e ({ frames := 2, cells := 0, slots := 0, locals := 45 } : Room) s m args below meth c s.heap [] 0 0 Q (F0 m 4 ls []) := by
    intro n
    induction n with
    | zero => intro i sm hi hm hs ls hl; exact absurd hm (by omega)
    | succ n ih =>
      intro i sm hi hm hs ls hl
      refine lv_iload_n hx hb d_K_landedWeight_4 rfl (lv_at hl 3 rfl) ?_
      refine lv_aload_n hx hb d_K_landedWeight_5 rfl (lv_at hl 0 rfl) ?_
      refine va_get (D := D) (ci := 4) (v := .int (nI nx)) (C := R_K) (T := F_K) (N := 22) hx hb htb iw_K hown hK hP 0 rfl rfl 2 (by decide) (htb _ mw_598) (fun _ h9 => h9) (congrArg (fun x => some (Value.int x)) hnx) d_K_landedWeight_6 ?_
      refine q_icmp_ge (a := i) (b := nx) (tgt := 116) hx hb (by omega) (by omega) d_K_landedWeight_9 (by decide) (fun c1 => ?_) (fun c1 => ?_)
      · refine lv_iload_n hx hb d_K_landedWeight_116 rfl (lv_at hl 2 rfl) ?_
        exact hret _ _ _ (by show sm = sumN _ nx; rw [show nx = i by omega, hs]) d_K_landedWeight_117
      · refine lv_aload_n hx hb d_K_landedWeight_12 rfl (lv_at hl 0 rfl) ?_
        refine lv_iload_n hx hb d_K_landedWeight_13 rfl (lv_at hl 3 rfl) ?_
        refine lv_iload_n hx hb d_K_landedWeight_14 rfl (lv_at hl 1 rfl) ?_
        refine rdV (As := [.int (nI i), .int (nI b)]) (rest := []) (b := an 0) ⟨hx, hb, hml, hown, htb⟩ (c_K_stands l D an kn h o u i b (by omega) (by omega)) (cwV (C := R_K) 2 htb (gV tb_good mw_717 mw_719 mw_12 mw_31 mw_720) rfl rfl rfl (by decide +kernel) ⟨Nat.le_of_ble_eq_true rfl, Nat.le_of_ble_eq_true rfl⟩) hP hK (va_recv hK hP (ci := 4) (q0 := 0) rfl rfl) rfl hl.1 rfl (lv_room (Nat.le_of_ble_eq_true rfl)) d_K_landedWeight_15 ⟨Nat.zero_le _, Nat.zero_le _⟩ ?_
        refine lv_if_eq (tgt := 110) hx hb d_K_landedWeight_18 (by decide) (fun c2 => ?_) (fun c2 => ?_)
        · replace c2 := bI_f c2
          refine lv_iinc (v := (nI (i + 1))) (lv' := [(3, .int (nI (i + 1))), (0, .ref (an 0)), (1, .int (nI b)), (2, .int sm)]) hx hb d_K_landedWeight_110 hl (k := 3) rfl (q_inc _) (by decide) rfl (fun ls hl => ?_)
          refine lv_goto (tgt := 4) hx hb d_K_landedWeight_113 (by decide) ?_
          exact ih (i + 1) sm (by omega) (by omega) (by show sm = sumN (lshR h o nb b) i + lshR h o nb b i; rw [← hs]; simp [lshR, c1, c2]) _ (lv_sub hl [1, 2, 3, 0] rfl)
        · replace c2 := bI_t c2
          have hbp : 0 < bofR o nb i := bofR_pos (by omega) c2
          have hbz : ¬ nI (bofR o nb i) = 0 := nI_ne0 hbp (by have := cntN_le (fun b => o (60 * i + b)) nb; show cntN _ nb < _; omega)
          refine lv_aload_n hx hb d_K_landedWeight_21 rfl (lv_at hl 0 rfl) ?_
          refine va_get (D := D) (ci := 4) (v := .ref (an 12)) (C := R_K) (T := F_K) (N := 22) hx hb htb iw_K hown hK hP 0 rfl rfl 18 (by decide) (htb _ mw_614) (fun _ h9 => h9) rfl d_K_landedWeight_22 ?_
          refine lv_iload_n hx hb d_K_landedWeight_25 rfl (lv_at hl 3 rfl) ?_
          refine q_iald hx hb hK hP 12 11 rfl rfl i (by omega) (by decide) d_K_landedWeight_26 ?_
          refine lv_if_ge (tgt := 33) hx hb d_K_landedWeight_27 (by decide) (fun c3 => ?_) (fun c3 => ?_)
          · refine lv_iconst (v := 0) hx hb d_K_landedWeight_33 (by decide) ?_
            refine lv_istore (lv' := [(4, .int 0), (0, .ref (an 0)), (1, .int (nI b)), (2, .int sm), (3, .int (nI i))]) hx hb d_K_landedWeight_34 hl (by decide) rfl (fun ls hl => ?_)
            refine lv_iconst (v := 0) hx hb d_K_landedWeight_36 (by decide) ?_
            refine lv_istore (lv' := [(5, .int 0), (4, .int 0), (0, .ref (an 0)), (1, .int (nI b)), (2, .int sm), (3, .int (nI i))]) hx hb d_K_landedWeight_37 hl (by decide) rfl (fun ls hl => ?_)
            have lp39 : ∀ (n2 : Nat) (q ah : Nat), q ≤ b → b + 1 ≤ q + n2 → ah = cntN (fun j => o (60 * i + j)) q → ∀ (ls : Array Slot), lv_has ls 6 [(0, .ref (an 0)), (1, .int (nI b)), (2, .int sm), (3, .int (nI i)), (4, .int (nI ah)), (5, .int (nI q))] → W p l e ({ frames := 2, cells := 0, slots := 0, locals := 45 } : Room) s m args below meth c s.heap [] 0 0 Q (F0 m 39 ls []) := by
              intro n2
              induction n2 with
              | zero => intro q ah hq hm2 hah ls hl; exact absurd hm2 (by omega)
              | succ n2 ih2 =>
                intro q ah hq hm2 hah ls hl
                refine lv_iload hx hb d_K_landedWeight_39 (lv_at hl 5 rfl) ?_
                refine lv_iload_n hx hb d_K_landedWeight_41 rfl (lv_at hl 1 rfl) ?_
                refine q_icmp_ge (a := q) (b := b) (tgt := 71) hx hb (by omega) (by omega) d_K_landedWeight_42 (by decide) (fun c4 => ?_) (fun c4 => ?_)
                · refine lv_aload_n hx hb d_K_landedWeight_71 rfl (lv_at hl 0 rfl) ?_
                  refine lv_iload_n hx hb d_K_landedWeight_72 rfl (lv_at hl 3 rfl) ?_
                  refine rdV (As := [.int (nI i)]) (rest := []) (b := an 0) ⟨hx, hb, hml, hown, htb⟩ (c_K_billsOf l D an kn h o u nb hnb hb6 i (by omega)) (cwV (C := R_K) 1 htb (gV tb_good mw_721 mw_723 mw_13 mw_31 mw_724) rfl rfl rfl (by decide +kernel) ⟨Nat.le_of_ble_eq_true rfl, Nat.le_of_ble_eq_true rfl⟩) hP hK (va_recv hK hP (ci := 4) (q0 := 0) rfl rfl) rfl hl.1 rfl (lv_room (Nat.le_of_ble_eq_true rfl)) d_K_landedWeight_73 ⟨Nat.zero_le _, Nat.zero_le _⟩ ?_
                  refine lv_istore (lv' := [(5, .int (nI (bofR o nb i))), (0, .ref (an 0)), (1, .int (nI b)), (2, .int sm), (3, .int (nI i)), (4, .int (nI ah))]) hx hb d_K_landedWeight_76 hl (by decide) rfl (fun ls hl => ?_)
                  refine lv_iload_n hx hb d_K_landedWeight_78 rfl (lv_at hl 3 rfl) ?_
                  refine lv_aload_n hx hb d_K_landedWeight_79 rfl (lv_at hl 1 rfl) ?_
                  refine va_get (D := D) (ci := 4) (v := .ref (an 12)) (C := R_K) (T := F_K) (N := 22) hx hb htb iw_K hown hK hP 0 rfl rfl 18 (by decide) (htb _ mw_614) (fun _ h9 => h9) rfl d_K_landedWeight_80 ?_
                  refine lv_iload_n hx hb d_K_landedWeight_83 rfl (lv_at hl 4 rfl) ?_
                  refine q_iald hx hb hK hP 12 11 rfl rfl i (by omega) (by decide) d_K_landedWeight_84 ?_
                  refine lv_iload hx hb d_K_landedWeight_85 (lv_at hl 0 rfl) ?_
                  refine lv_idiv hx hb d_K_landedWeight_87 hbz ?_
                  refine lv_iload hx hb d_K_landedWeight_88 (lv_at hl 5 rfl) ?_
                  refine lv_aload_n hx hb d_K_landedWeight_90 rfl (lv_at hl 1 rfl) ?_
                  refine va_get (D := D) (ci := 4) (v := .ref (an 12)) (C := R_K) (T := F_K) (N := 22) hx hb htb iw_K hown hK hP 0 rfl rfl 18 (by decide) (htb _ mw_614) (fun _ h9 => h9) rfl d_K_landedWeight_91 ?_
                  refine lv_iload_n hx hb d_K_landedWeight_94 rfl (lv_at hl 4 rfl) ?_
                  refine q_iald hx hb hK hP 12 11 rfl rfl i (by omega) (by decide) d_K_landedWeight_95 ?_
                  refine lv_iload hx hb d_K_landedWeight_96 (lv_at hl 0 rfl) ?_
                  refine lv_irem hx hb d_K_landedWeight_98 hbz ?_
                  refine lv_icmp_ge (tgt := 106) hx hb d_K_landedWeight_99 (by decide) (fun c5 => ?_) (fun c5 => ?_)
                  · refine lv_iconst (v := 0) hx hb d_K_landedWeight_106 (by decide) ?_
                    refine lv_iadd hx hb d_K_landedWeight_107 ?_
                    refine lv_iadd hx hb d_K_landedWeight_108 ?_
                    refine lv_istore_n (lv' := [(2, .int (sm + (((h 12 i) / (nI (bofR o nb i))) + 0))), (5, .int (nI (bofR o nb i))), (0, .ref (an 0)), (1, .int (nI b)), (3, .int (nI i)), (4, .int (nI ah))]) hx hb d_K_landedWeight_109 rfl hl (by decide) rfl (fun ls hl => ?_)
                    refine lv_iinc (v := (nI (i + 1))) (lv' := [(3, .int (nI (i + 1))), (2, .int (sm + (((h 12 i) / (nI (bofR o nb i))) + 0))), (5, .int (nI (bofR o nb i))), (0, .ref (an 0)), (1, .int (nI b)), (4, .int (nI ah))]) hx hb d_K_landedWeight_110 hl (k := 4) rfl (q_inc _) (by decide) rfl (fun ls hl => ?_)
                    refine lv_goto (tgt := 4) hx hb d_K_landedWeight_113 (by decide) ?_
                    exact ih (i + 1) (sm + (((h 12 i) / (nI (bofR o nb i))) + 0)) (by omega) (by omega) (by have eah : cntN (fun j => o (60 * i + j)) b = ah := (by rw [hah, show q = b by omega]); show (sm + (((h 12 i) / (nI (bofR o nb i))) + 0)) = sumN (lshR h o nb b) i + lshR h o nb b i; rw [← hs]; simp [lshR, eah, c1, c2, c3, c4, c5]) _ (lv_sub hl [3, 4, 1, 0] rfl)
                  · refine lv_iconst (v := 1) hx hb d_K_landedWeight_102 (by decide) ?_
                    refine lv_goto (tgt := 107) hx hb d_K_landedWeight_103 (by decide) ?_
                    refine lv_iadd hx hb d_K_landedWeight_107 ?_
                    refine lv_iadd hx hb d_K_landedWeight_108 ?_
                    refine lv_istore_n (lv' := [(2, .int (sm + (((h 12 i) / (nI (bofR o nb i))) + 1))), (5, .int (nI (bofR o nb i))), (0, .ref (an 0)), (1, .int (nI b)), (3, .int (nI i)), (4, .int (nI ah))]) hx hb d_K_landedWeight_109 rfl hl (by decide) rfl (fun ls hl => ?_)
                    refine lv_iinc (v := (nI (i + 1))) (lv' := [(3, .int (nI (i + 1))), (2, .int (sm + (((h 12 i) / (nI (bofR o nb i))) + 1))), (5, .int (nI (bofR o nb i))), (0, .ref (an 0)), (1, .int (nI b)), (4, .int (nI ah))]) hx hb d_K_landedWeight_110 hl (k := 4) rfl (q_inc _) (by decide) rfl (fun ls hl => ?_)
                    refine lv_goto (tgt := 4) hx hb d_K_landedWeight_113 (by decide) ?_
                    exact ih (i + 1) (sm + (((h 12 i) / (nI (bofR o nb i))) + 1)) (by omega) (by omega) (by have eah : cntN (fun j => o (60 * i + j)) b = ah := (by rw [hah, show q = b by omega]); show (sm + (((h 12 i) / (nI (bofR o nb i))) + 1)) = sumN (lshR h o nb b) i + lshR h o nb b i; rw [← hs]; simp [lshR, eah, c1, c2, c3, c4, c5]) _ (lv_sub hl [3, 4, 1, 0] rfl)
                · refine lv_iload hx hb d_K_landedWeight_45 (lv_at hl 4 rfl) ?_
                  refine lv_aload_n hx hb d_K_landedWeight_47 rfl (lv_at hl 0 rfl) ?_
                  refine lv_iload_n hx hb d_K_landedWeight_48 rfl (lv_at hl 3 rfl) ?_
                  refine lv_iload hx hb d_K_landedWeight_49 (lv_at hl 5 rfl) ?_
                  refine rdV (As := [.int (nI i), .int (nI q)]) (rest := [.int (nI ah)]) (b := an 0) ⟨hx, hb, hml, hown, htb⟩ (c_K_stands l D an kn h o u i q (by omega) (by omega)) (cwV (C := R_K) 2 htb (gV tb_good mw_717 mw_719 mw_12 mw_31 mw_720) rfl rfl rfl (by decide +kernel) ⟨Nat.le_of_ble_eq_true rfl, Nat.le_of_ble_eq_true rfl⟩) hP hK (va_recv hK hP (ci := 4) (q0 := 0) rfl rfl) rfl hl.1 rfl (lv_room (Nat.le_of_ble_eq_true rfl)) d_K_landedWeight_51 ⟨Nat.zero_le _, Nat.zero_le _⟩ ?_
                  refine lv_if_eq (tgt := 61) hx hb d_K_landedWeight_54 (by decide) (fun c6 => ?_) (fun c6 => ?_)
                  · replace c6 := bI_f c6
                    refine lv_iconst (v := 0) hx hb d_K_landedWeight_61 (by decide) ?_
                    refine lv_iadd hx hb d_K_landedWeight_62 ?_
                    refine W.eq (congrArg (fun z => F0 m 63 ls (.int z :: [])) (show ((nI ah) + 0) = (nI ah) from Int32.add_zero _)) ?_
                    refine lv_istore (lv' := [(4, .int (nI ah)), (0, .ref (an 0)), (1, .int (nI b)), (2, .int sm), (3, .int (nI i)), (5, .int (nI q))]) hx hb d_K_landedWeight_63 hl (by decide) rfl (fun ls hl => ?_)
                    refine lv_iinc (v := (nI (q + 1))) (lv' := [(5, .int (nI (q + 1))), (4, .int (nI ah)), (0, .ref (an 0)), (1, .int (nI b)), (2, .int sm), (3, .int (nI i))]) hx hb d_K_landedWeight_65 hl (k := 5) rfl (q_inc _) (by decide) rfl (fun ls hl => ?_)
                    refine lv_goto (tgt := 39) hx hb d_K_landedWeight_68 (by decide) ?_
                    exact ih2 (q + 1) ah (by omega) (by omega) (by rw [cntN_f (P := (fun j => o (60 * i + j))) (by simp [c1, c2, c3, c4, c6]), hah]) _ (lv_sub hl [2, 3, 4, 5, 1, 0] rfl)
                  · replace c6 := bI_t c6
                    refine lv_iconst (v := 1) hx hb d_K_landedWeight_57 (by decide) ?_
                    refine lv_goto (tgt := 62) hx hb d_K_landedWeight_58 (by decide) ?_
                    refine lv_iadd hx hb d_K_landedWeight_62 ?_
                    refine W.eq (congrArg (fun z => F0 m 63 ls (.int z :: [])) (show ((nI ah) + 1) = (nI (ah + 1)) from nI_1 _)) ?_
                    refine lv_istore (lv' := [(4, .int (nI (ah + 1))), (0, .ref (an 0)), (1, .int (nI b)), (2, .int sm), (3, .int (nI i)), (5, .int (nI q))]) hx hb d_K_landedWeight_63 hl (by decide) rfl (fun ls hl => ?_)
                    refine lv_iinc (v := (nI (q + 1))) (lv' := [(5, .int (nI (q + 1))), (4, .int (nI (ah + 1))), (0, .ref (an 0)), (1, .int (nI b)), (2, .int sm), (3, .int (nI i))]) hx hb d_K_landedWeight_65 hl (k := 5) rfl (q_inc _) (by decide) rfl (fun ls hl => ?_)
                    refine lv_goto (tgt := 39) hx hb d_K_landedWeight_68 (by decide) ?_
                    exact ih2 (q + 1) (ah + 1) (by omega) (by omega) (by rw [cntN_t (P := (fun j => o (60 * i + j))) (by simp [c1, c2, c3, c4, c6]), hah]) _ (lv_sub hl [2, 3, 4, 5, 1, 0] rfl)
            exact lp39 (b + 1) 0 0 (Nat.zero_le _) (by omega) rfl _ (lv_sub hl [2, 3, 4, 5, 1, 0] rfl)
          · refine lv_goto (tgt := 110) hx hb d_K_landedWeight_30 (by decide) ?_
            refine lv_iinc (v := (nI (i + 1))) (lv' := [(3, .int (nI (i + 1))), (0, .ref (an 0)), (1, .int (nI b)), (2, .int sm)]) hx hb d_K_landedWeight_110 hl (k := 3) rfl (q_inc _) (by decide) rfl (fun ls hl => ?_)
            refine lv_goto (tgt := 4) hx hb d_K_landedWeight_113 (by decide) ?_
            exact ih (i + 1) sm (by omega) (by omega) (by show sm = sumN (lshR h o nb b) i + lshR h o nb b i; rw [← hs]; simp [lshR, c1, c2, c3]) _ (lv_sub hl [1, 2, 3, 0] rfl)
  exact lp4 (nx + 1) 0 0 (Nat.zero_le _) (by omega) rfl _ (lv_sub hl [2, 3, 1, 0] rfl)
set_option maxHeartbeats 4000000 in
set_option maxRecDepth 100000 in
theorem c_K_isLike (l : Launch) (D : va_G) (w : va_W) (tys : List (ClassId × FieldType)) (a0 b0 : Nat) (ha0 : a0 < 100000000) (hb0 : b0 < 100000000) : RD l y_K_isLike (.code y_K_isLike b_K_isLike 7 (some .boolean) :: TB) ({ frames := 0, cells := 0, slots := 0, locals := 0 } : Room) [.int (nI a0), .int (nI b0)] D classes w tys (bI (likL 8 0 false a0 b0)) := by
  refine rd_of (by decide +kernel) (bI_nar _) (Nat.le_of_ble_eq_true rfl) ?_
  intro p e s m args below meth c Q ls hx hb hml htb hown hP hK hl hret
  have hl : lv_has ls 7 [(0, .int (nI a0)), (1, .int (nI b0))] := hl
  refine lv_iconst (v := 0) hx hb d_K_isLike_0 (by decide) ?_
  refine lv_istore_n (lv' := [(2, .int 0), (0, .int (nI a0)), (1, .int (nI b0))]) hx hb d_K_isLike_1 rfl hl (by decide) rfl (fun ls hl => ?_)
  refine lv_iconst (v := 0) hx hb d_K_isLike_2 (by decide) ?_
  refine lv_istore_n (lv' := [(3, .int 0), (2, .int 0), (0, .int (nI a0)), (1, .int (nI b0))]) hx hb d_K_isLike_3 rfl hl (by decide) rfl (fun ls hl => ?_)
  refine lv_iload_n hx hb d_K_isLike_4 rfl (lv_at hl 2 rfl) ?_
  refine lv_istore (lv' := [(4, .int (nI a0)), (3, .int 0), (2, .int 0), (0, .int (nI a0)), (1, .int (nI b0))]) hx hb d_K_isLike_5 hl (by decide) rfl (fun ls hl => ?_)
  refine lv_iload_n hx hb d_K_isLike_7 rfl (lv_at hl 4 rfl) ?_
  refine lv_istore (lv' := [(5, .int (nI b0)), (4, .int (nI a0)), (3, .int 0), (2, .int 0), (0, .int (nI a0)), (1, .int (nI b0))]) hx hb d_K_isLike_8 hl (by decide) rfl (fun ls hl => ?_)
  refine lv_iconst (v := 0) hx hb d_K_isLike_10 (by decide) ?_
  refine lv_istore (lv' := [(6, .int 0), (5, .int (nI b0)), (4, .int (nI a0)), (3, .int 0), (2, .int 0), (0, .int (nI a0)), (1, .int (nI b0))]) hx hb d_K_isLike_11 hl (by decide) rfl (fun ls hl => ?_)
  have lp13 : ∀ (n : Nat) (f df : Nat) (ex : Bool) (a b i : Nat), f + i = 8 → f + 1 ≤ n → df ≤ i → a < 100000000 → b < 100000000 → likL f df ex a b = likL 8 0 false a0 b0 → ∀ (ls : Array Slot), lv_has ls 7 [(2, .int (nI df)), (3, .int (bI ex)), (4, .int (nI a)), (5, .int (nI b)), (6, .int (nI i))] → W p l e ({ frames := 0, cells := 0, slots := 0, locals := 0 } : Room) s m args below meth c s.heap [] 0 0 Q (F0 m 13 ls []) := by
    intro n
    induction n with
    | zero => intro f df ex a b i hi hm hdf ha9 hb9 hf ls hl; exact absurd hm (by omega)
    | succ n ih =>
      intro f df ex a b i hi hm hdf ha9 hb9 hf ls hl
      refine lv_iload hx hb d_K_isLike_13 (lv_at hl 4 rfl) ?_
      refine lv_bipush (v := 8) hx hb d_K_isLike_15 (by decide) ?_
      refine q_icmp_ge (a := i) (b := 8) (tgt := 116) hx hb (by omega) (by omega) d_K_isLike_17 (by decide) (fun c1 => ?_) (fun c1 => ?_)
      · have he : likE df ex = likL 8 0 false a0 b0 := by rw [← hf, show f = 0 by omega]; rfl
        refine lv_iload_n hx hb d_K_isLike_116 rfl (lv_at hl 0 rfl) ?_
        refine lv_iconst (v := 2) hx hb d_K_isLike_117 (by decide) ?_
        refine q_icmp_lt (a := df) (b := 2) (tgt := 130) hx hb (by omega) (by omega) d_K_isLike_118 (by decide) (fun c2 => ?_) (fun c2 => ?_)
        · refine lv_iconst (v := 1) hx hb d_K_isLike_130 (by decide) ?_
          refine lv_goto (tgt := 135) hx hb d_K_isLike_131 (by decide) ?_
          exact hret _ _ _ (by rw [← he]; simp [likE, bI, c1, c2]) d_K_isLike_135
        · refine lv_iload_n hx hb d_K_isLike_121 rfl (lv_at hl 0 rfl) ?_
          refine lv_iconst (v := 2) hx hb d_K_isLike_122 (by decide) ?_
          refine q_icmp_ne (a := df) (b := 2) (tgt := 134) hx hb (by omega) (by omega) d_K_isLike_123 (by decide) (fun c3 => ?_) (fun c3 => ?_)
          · refine lv_iconst (v := 0) hx hb d_K_isLike_134 (by decide) ?_
            exact hret _ _ _ (by rw [← he]; simp [likE, bI, c1, c2, c3]) d_K_isLike_135
          · refine lv_iload_n hx hb d_K_isLike_126 rfl (lv_at hl 1 rfl) ?_
            refine lv_if_eq (tgt := 134) hx hb d_K_isLike_127 (by decide) (fun c4 => ?_) (fun c4 => ?_)
            · replace c4 := bI_f c4
              refine lv_iconst (v := 0) hx hb d_K_isLike_134 (by decide) ?_
              exact hret _ _ _ (by rw [← he]; simp [likE, bI, c1, c2, c3, c4]) d_K_isLike_135
            · replace c4 := bI_t c4
              refine lv_iconst (v := 1) hx hb d_K_isLike_130 (by decide) ?_
              refine lv_goto (tgt := 135) hx hb d_K_isLike_131 (by decide) ?_
              exact hret _ _ _ (by rw [← he]; simp [likE, bI, c1, c2, c3, c4]) d_K_isLike_135
      · obtain ⟨f, rfl⟩ : ∃ q, f = q + 1 := ⟨f - 1, by omega⟩
        refine lv_iload_n hx hb d_K_isLike_20 rfl (lv_at hl 0 rfl) ?_
        refine lv_iload hx hb d_K_isLike_21 (lv_at hl 2 rfl) ?_
        refine lv_bipush (v := 10) hx hb d_K_isLike_23 (by decide) ?_
        refine lv_irem hx hb d_K_isLike_25 (by decide) ?_
        refine W.eq (congrArg (fun z => F0 m 26 ls (.int z :: [.int (nI df)])) (show ((nI a) - (nI a) / 10 * 10) = (nI (a % 10)) from pk_rem (d := 10) (by omega) (by decide) (by decide))) ?_
        refine lv_iload hx hb d_K_isLike_26 (lv_at hl 3 rfl) ?_
        refine lv_bipush (v := 10) hx hb d_K_isLike_28 (by decide) ?_
        refine lv_irem hx hb d_K_isLike_30 (by decide) ?_
        refine W.eq (congrArg (fun z => F0 m 31 ls (.int z :: [.int (nI (a % 10)), .int (nI df)])) (show ((nI b) - (nI b) / 10 * 10) = (nI (b % 10)) from pk_rem (d := 10) (by omega) (by decide) (by decide))) ?_
        refine q_icmp_eq (a := (a % 10)) (b := (b % 10)) (tgt := 38) hx hb (by omega) (by omega) d_K_isLike_31 (by decide) (fun c5 => ?_) (fun c5 => ?_)
        · refine lv_iconst (v := 0) hx hb d_K_isLike_38 (by decide) ?_
          refine lv_iadd hx hb d_K_isLike_39 ?_
          refine W.eq (congrArg (fun z => F0 m 40 ls (.int z :: [])) (show ((nI df) + 0) = (nI df) from Int32.add_zero _)) ?_
          refine lv_istore_n (lv' := [(2, .int (nI df)), (3, .int (bI ex)), (4, .int (nI a)), (5, .int (nI b)), (6, .int (nI i))]) hx hb d_K_isLike_40 rfl hl (by decide) rfl (fun ls hl => ?_)
          refine lv_iload_n hx hb d_K_isLike_41 rfl (lv_at hl 1 rfl) ?_
          refine lv_if_ne (tgt := 90) hx hb d_K_isLike_42 (by decide) (fun c6 => ?_) (fun c6 => ?_)
          · replace c6 := bI_t c6
            refine lv_iconst (v := 1) hx hb d_K_isLike_90 (by decide) ?_
            refine lv_goto (tgt := 95) hx hb d_K_isLike_91 (by decide) ?_
            refine lv_istore_n (lv' := [(3, .int 1), (2, .int (nI df)), (4, .int (nI a)), (5, .int (nI b)), (6, .int (nI i))]) hx hb d_K_isLike_95 rfl hl (by decide) rfl (fun ls hl => ?_)
            refine lv_iload hx hb d_K_isLike_96 (lv_at hl 2 rfl) ?_
            refine lv_bipush (v := 10) hx hb d_K_isLike_98 (by decide) ?_
            refine lv_idiv hx hb d_K_isLike_100 (by decide) ?_
            refine W.eq (congrArg (fun z => F0 m 101 ls (.int z :: [])) (show ((nI a) / 10) = (nI (a / 10)) from pk_div (d := 10) (by omega) (by decide) (by decide))) ?_
            refine lv_istore (lv' := [(4, .int (nI (a / 10))), (3, .int 1), (2, .int (nI df)), (5, .int (nI b)), (6, .int (nI i))]) hx hb d_K_isLike_101 hl (by decide) rfl (fun ls hl => ?_)
            refine lv_iload hx hb d_K_isLike_103 (lv_at hl 3 rfl) ?_
            refine lv_bipush (v := 10) hx hb d_K_isLike_105 (by decide) ?_
            refine lv_idiv hx hb d_K_isLike_107 (by decide) ?_
            refine W.eq (congrArg (fun z => F0 m 108 ls (.int z :: [])) (show ((nI b) / 10) = (nI (b / 10)) from pk_div (d := 10) (by omega) (by decide) (by decide))) ?_
            refine lv_istore (lv' := [(5, .int (nI (b / 10))), (4, .int (nI (a / 10))), (3, .int 1), (2, .int (nI df)), (6, .int (nI i))]) hx hb d_K_isLike_108 hl (by decide) rfl (fun ls hl => ?_)
            refine lv_iinc (v := (nI (i + 1))) (lv' := [(6, .int (nI (i + 1))), (5, .int (nI (b / 10))), (4, .int (nI (a / 10))), (3, .int 1), (2, .int (nI df))]) hx hb d_K_isLike_110 hl (k := 4) rfl (q_inc _) (by decide) rfl (fun ls hl => ?_)
            refine lv_goto (tgt := 13) hx hb d_K_isLike_113 (by decide) ?_
            exact ih f df true (a / 10) (b / 10) (i + 1) (by omega) (by omega) (by omega) (by omega) (by omega) (by rw [← hf]; simp only [likL, if_pos c5, c6, Bool.false_eq_true, if_false, if_true]) _ (lv_sub hl [4, 3, 2, 1, 0] rfl)
          · replace c6 := bI_f c6
            refine lv_iload hx hb d_K_isLike_45 (lv_at hl 2 rfl) ?_
            refine lv_bipush (v := 10) hx hb d_K_isLike_47 (by decide) ?_
            refine lv_irem hx hb d_K_isLike_49 (by decide) ?_
            refine W.eq (congrArg (fun z => F0 m 50 ls (.int z :: [])) (show ((nI a) - (nI a) / 10 * 10) = (nI (a % 10)) from pk_rem (d := 10) (by omega) (by decide) (by decide))) ?_
            refine lv_iload hx hb d_K_isLike_50 (lv_at hl 3 rfl) ?_
            refine lv_bipush (v := 10) hx hb d_K_isLike_52 (by decide) ?_
            refine lv_irem hx hb d_K_isLike_54 (by decide) ?_
            refine W.eq (congrArg (fun z => F0 m 55 ls (.int z :: [.int (nI (a % 10))])) (show ((nI b) - (nI b) / 10 * 10) = (nI (b % 10)) from pk_rem (d := 10) (by omega) (by decide) (by decide))) ?_
            refine q_icmp_eq (a := (a % 10)) (b := (b % 10)) (tgt := 94) hx hb (by omega) (by omega) d_K_isLike_55 (by decide) (fun c7 => ?_) (fun c7 => ?_)
            · refine lv_iconst (v := 0) hx hb d_K_isLike_94 (by decide) ?_
              refine lv_istore_n (lv' := [(3, .int 0), (2, .int (nI df)), (4, .int (nI a)), (5, .int (nI b)), (6, .int (nI i))]) hx hb d_K_isLike_95 rfl hl (by decide) rfl (fun ls hl => ?_)
              refine lv_iload hx hb d_K_isLike_96 (lv_at hl 2 rfl) ?_
              refine lv_bipush (v := 10) hx hb d_K_isLike_98 (by decide) ?_
              refine lv_idiv hx hb d_K_isLike_100 (by decide) ?_
              refine W.eq (congrArg (fun z => F0 m 101 ls (.int z :: [])) (show ((nI a) / 10) = (nI (a / 10)) from pk_div (d := 10) (by omega) (by decide) (by decide))) ?_
              refine lv_istore (lv' := [(4, .int (nI (a / 10))), (3, .int 0), (2, .int (nI df)), (5, .int (nI b)), (6, .int (nI i))]) hx hb d_K_isLike_101 hl (by decide) rfl (fun ls hl => ?_)
              refine lv_iload hx hb d_K_isLike_103 (lv_at hl 3 rfl) ?_
              refine lv_bipush (v := 10) hx hb d_K_isLike_105 (by decide) ?_
              refine lv_idiv hx hb d_K_isLike_107 (by decide) ?_
              refine W.eq (congrArg (fun z => F0 m 108 ls (.int z :: [])) (show ((nI b) / 10) = (nI (b / 10)) from pk_div (d := 10) (by omega) (by decide) (by decide))) ?_
              refine lv_istore (lv' := [(5, .int (nI (b / 10))), (4, .int (nI (a / 10))), (3, .int 0), (2, .int (nI df)), (6, .int (nI i))]) hx hb d_K_isLike_108 hl (by decide) rfl (fun ls hl => ?_)
              refine lv_iinc (v := (nI (i + 1))) (lv' := [(6, .int (nI (i + 1))), (5, .int (nI (b / 10))), (4, .int (nI (a / 10))), (3, .int 0), (2, .int (nI df))]) hx hb d_K_isLike_110 hl (k := 4) rfl (q_inc _) (by decide) rfl (fun ls hl => ?_)
              refine lv_goto (tgt := 13) hx hb d_K_isLike_113 (by decide) ?_
              exact ih f df false (a / 10) (b / 10) (i + 1) (by omega) (by omega) (by omega) (by omega) (by omega) (by rw [← hf]; simp only [likL, if_pos c5, c6, if_pos c7, Bool.false_eq_true, if_false, if_true]) _ (lv_sub hl [4, 3, 2, 1, 0] rfl)
            · exact absurd c5 c7
        · refine lv_iconst (v := 1) hx hb d_K_isLike_34 (by decide) ?_
          refine lv_goto (tgt := 39) hx hb d_K_isLike_35 (by decide) ?_
          refine lv_iadd hx hb d_K_isLike_39 ?_
          refine W.eq (congrArg (fun z => F0 m 40 ls (.int z :: [])) (show ((nI df) + 1) = (nI (df + 1)) from nI_1 _)) ?_
          refine lv_istore_n (lv' := [(2, .int (nI (df + 1))), (3, .int (bI ex)), (4, .int (nI a)), (5, .int (nI b)), (6, .int (nI i))]) hx hb d_K_isLike_40 rfl hl (by decide) rfl (fun ls hl => ?_)
          refine lv_iload_n hx hb d_K_isLike_41 rfl (lv_at hl 1 rfl) ?_
          refine lv_if_ne (tgt := 90) hx hb d_K_isLike_42 (by decide) (fun c8 => ?_) (fun c8 => ?_)
          · replace c8 := bI_t c8
            refine lv_iconst (v := 1) hx hb d_K_isLike_90 (by decide) ?_
            refine lv_goto (tgt := 95) hx hb d_K_isLike_91 (by decide) ?_
            refine lv_istore_n (lv' := [(3, .int 1), (2, .int (nI (df + 1))), (4, .int (nI a)), (5, .int (nI b)), (6, .int (nI i))]) hx hb d_K_isLike_95 rfl hl (by decide) rfl (fun ls hl => ?_)
            refine lv_iload hx hb d_K_isLike_96 (lv_at hl 2 rfl) ?_
            refine lv_bipush (v := 10) hx hb d_K_isLike_98 (by decide) ?_
            refine lv_idiv hx hb d_K_isLike_100 (by decide) ?_
            refine W.eq (congrArg (fun z => F0 m 101 ls (.int z :: [])) (show ((nI a) / 10) = (nI (a / 10)) from pk_div (d := 10) (by omega) (by decide) (by decide))) ?_
            refine lv_istore (lv' := [(4, .int (nI (a / 10))), (3, .int 1), (2, .int (nI (df + 1))), (5, .int (nI b)), (6, .int (nI i))]) hx hb d_K_isLike_101 hl (by decide) rfl (fun ls hl => ?_)
            refine lv_iload hx hb d_K_isLike_103 (lv_at hl 3 rfl) ?_
            refine lv_bipush (v := 10) hx hb d_K_isLike_105 (by decide) ?_
            refine lv_idiv hx hb d_K_isLike_107 (by decide) ?_
            refine W.eq (congrArg (fun z => F0 m 108 ls (.int z :: [])) (show ((nI b) / 10) = (nI (b / 10)) from pk_div (d := 10) (by omega) (by decide) (by decide))) ?_
            refine lv_istore (lv' := [(5, .int (nI (b / 10))), (4, .int (nI (a / 10))), (3, .int 1), (2, .int (nI (df + 1))), (6, .int (nI i))]) hx hb d_K_isLike_108 hl (by decide) rfl (fun ls hl => ?_)
            refine lv_iinc (v := (nI (i + 1))) (lv' := [(6, .int (nI (i + 1))), (5, .int (nI (b / 10))), (4, .int (nI (a / 10))), (3, .int 1), (2, .int (nI (df + 1)))]) hx hb d_K_isLike_110 hl (k := 4) rfl (q_inc _) (by decide) rfl (fun ls hl => ?_)
            refine lv_goto (tgt := 13) hx hb d_K_isLike_113 (by decide) ?_
            exact ih f (df + 1) true (a / 10) (b / 10) (i + 1) (by omega) (by omega) (by omega) (by omega) (by omega) (by rw [← hf]; simp only [likL, if_neg c5, c8, Bool.false_eq_true, if_false, if_true]) _ (lv_sub hl [4, 3, 2, 1, 0] rfl)
          · replace c8 := bI_f c8
            refine lv_iload hx hb d_K_isLike_45 (lv_at hl 2 rfl) ?_
            refine lv_bipush (v := 10) hx hb d_K_isLike_47 (by decide) ?_
            refine lv_irem hx hb d_K_isLike_49 (by decide) ?_
            refine W.eq (congrArg (fun z => F0 m 50 ls (.int z :: [])) (show ((nI a) - (nI a) / 10 * 10) = (nI (a % 10)) from pk_rem (d := 10) (by omega) (by decide) (by decide))) ?_
            refine lv_iload hx hb d_K_isLike_50 (lv_at hl 3 rfl) ?_
            refine lv_bipush (v := 10) hx hb d_K_isLike_52 (by decide) ?_
            refine lv_irem hx hb d_K_isLike_54 (by decide) ?_
            refine W.eq (congrArg (fun z => F0 m 55 ls (.int z :: [.int (nI (a % 10))])) (show ((nI b) - (nI b) / 10 * 10) = (nI (b % 10)) from pk_rem (d := 10) (by omega) (by decide) (by decide))) ?_
            refine q_icmp_eq (a := (a % 10)) (b := (b % 10)) (tgt := 94) hx hb (by omega) (by omega) d_K_isLike_55 (by decide) (fun c9 => ?_) (fun c9 => ?_)
            · exact absurd c9 c5
            · refine lv_iload hx hb d_K_isLike_58 (lv_at hl 2 rfl) ?_
              refine lv_bipush (v := 10) hx hb d_K_isLike_60 (by decide) ?_
              refine lv_irem hx hb d_K_isLike_62 (by decide) ?_
              refine W.eq (congrArg (fun z => F0 m 63 ls (.int z :: [])) (show ((nI a) - (nI a) / 10 * 10) = (nI (a % 10)) from pk_rem (d := 10) (by omega) (by decide) (by decide))) ?_
              refine lv_iload hx hb d_K_isLike_63 (lv_at hl 3 rfl) ?_
              refine lv_bipush (v := 10) hx hb d_K_isLike_65 (by decide) ?_
              refine lv_idiv hx hb d_K_isLike_67 (by decide) ?_
              refine W.eq (congrArg (fun z => F0 m 68 ls (.int z :: [.int (nI (a % 10))])) (show ((nI b) / 10) = (nI (b / 10)) from pk_div (d := 10) (by omega) (by decide) (by decide))) ?_
              refine lv_bipush (v := 10) hx hb d_K_isLike_68 (by decide) ?_
              refine lv_irem hx hb d_K_isLike_70 (by decide) ?_
              refine W.eq (congrArg (fun z => F0 m 71 ls (.int z :: [.int (nI (a % 10))])) (show ((nI (b / 10)) - (nI (b / 10)) / 10 * 10) = (nI ((b / 10) % 10)) from pk_rem (d := 10) (by omega) (by decide) (by decide))) ?_
              refine q_icmp_ne (a := (a % 10)) (b := ((b / 10) % 10)) (tgt := 94) hx hb (by omega) (by omega) d_K_isLike_71 (by decide) (fun c10 => ?_) (fun c10 => ?_)
              · refine lv_iconst (v := 0) hx hb d_K_isLike_94 (by decide) ?_
                refine lv_istore_n (lv' := [(3, .int 0), (2, .int (nI (df + 1))), (4, .int (nI a)), (5, .int (nI b)), (6, .int (nI i))]) hx hb d_K_isLike_95 rfl hl (by decide) rfl (fun ls hl => ?_)
                refine lv_iload hx hb d_K_isLike_96 (lv_at hl 2 rfl) ?_
                refine lv_bipush (v := 10) hx hb d_K_isLike_98 (by decide) ?_
                refine lv_idiv hx hb d_K_isLike_100 (by decide) ?_
                refine W.eq (congrArg (fun z => F0 m 101 ls (.int z :: [])) (show ((nI a) / 10) = (nI (a / 10)) from pk_div (d := 10) (by omega) (by decide) (by decide))) ?_
                refine lv_istore (lv' := [(4, .int (nI (a / 10))), (3, .int 0), (2, .int (nI (df + 1))), (5, .int (nI b)), (6, .int (nI i))]) hx hb d_K_isLike_101 hl (by decide) rfl (fun ls hl => ?_)
                refine lv_iload hx hb d_K_isLike_103 (lv_at hl 3 rfl) ?_
                refine lv_bipush (v := 10) hx hb d_K_isLike_105 (by decide) ?_
                refine lv_idiv hx hb d_K_isLike_107 (by decide) ?_
                refine W.eq (congrArg (fun z => F0 m 108 ls (.int z :: [])) (show ((nI b) / 10) = (nI (b / 10)) from pk_div (d := 10) (by omega) (by decide) (by decide))) ?_
                refine lv_istore (lv' := [(5, .int (nI (b / 10))), (4, .int (nI (a / 10))), (3, .int 0), (2, .int (nI (df + 1))), (6, .int (nI i))]) hx hb d_K_isLike_108 hl (by decide) rfl (fun ls hl => ?_)
                refine lv_iinc (v := (nI (i + 1))) (lv' := [(6, .int (nI (i + 1))), (5, .int (nI (b / 10))), (4, .int (nI (a / 10))), (3, .int 0), (2, .int (nI (df + 1)))]) hx hb d_K_isLike_110 hl (k := 4) rfl (q_inc _) (by decide) rfl (fun ls hl => ?_)
                refine lv_goto (tgt := 13) hx hb d_K_isLike_113 (by decide) ?_
                exact ih f (df + 1) false (a / 10) (b / 10) (i + 1) (by omega) (by omega) (by omega) (by omega) (by omega) (by rw [← hf]; simp only [likL, if_neg c5, c8, if_neg c9, if_neg c10, Bool.false_eq_true, if_false, if_true]) _ (lv_sub hl [4, 3, 2, 1, 0] rfl)
              · refine lv_iload hx hb d_K_isLike_74 (lv_at hl 3 rfl) ?_
                refine lv_bipush (v := 10) hx hb d_K_isLike_76 (by decide) ?_
                refine lv_irem hx hb d_K_isLike_78 (by decide) ?_
                refine W.eq (congrArg (fun z => F0 m 79 ls (.int z :: [])) (show ((nI b) - (nI b) / 10 * 10) = (nI (b % 10)) from pk_rem (d := 10) (by omega) (by decide) (by decide))) ?_
                refine lv_iload hx hb d_K_isLike_79 (lv_at hl 2 rfl) ?_
                refine lv_bipush (v := 10) hx hb d_K_isLike_81 (by decide) ?_
                refine lv_idiv hx hb d_K_isLike_83 (by decide) ?_
                refine W.eq (congrArg (fun z => F0 m 84 ls (.int z :: [.int (nI (b % 10))])) (show ((nI a) / 10) = (nI (a / 10)) from pk_div (d := 10) (by omega) (by decide) (by decide))) ?_
                refine lv_bipush (v := 10) hx hb d_K_isLike_84 (by decide) ?_
                refine lv_irem hx hb d_K_isLike_86 (by decide) ?_
                refine W.eq (congrArg (fun z => F0 m 87 ls (.int z :: [.int (nI (b % 10))])) (show ((nI (a / 10)) - (nI (a / 10)) / 10 * 10) = (nI ((a / 10) % 10)) from pk_rem (d := 10) (by omega) (by decide) (by decide))) ?_
                refine q_icmp_ne (a := (b % 10)) (b := ((a / 10) % 10)) (tgt := 94) hx hb (by omega) (by omega) d_K_isLike_87 (by decide) (fun c11 => ?_) (fun c11 => ?_)
                · refine lv_iconst (v := 0) hx hb d_K_isLike_94 (by decide) ?_
                  refine lv_istore_n (lv' := [(3, .int 0), (2, .int (nI (df + 1))), (4, .int (nI a)), (5, .int (nI b)), (6, .int (nI i))]) hx hb d_K_isLike_95 rfl hl (by decide) rfl (fun ls hl => ?_)
                  refine lv_iload hx hb d_K_isLike_96 (lv_at hl 2 rfl) ?_
                  refine lv_bipush (v := 10) hx hb d_K_isLike_98 (by decide) ?_
                  refine lv_idiv hx hb d_K_isLike_100 (by decide) ?_
                  refine W.eq (congrArg (fun z => F0 m 101 ls (.int z :: [])) (show ((nI a) / 10) = (nI (a / 10)) from pk_div (d := 10) (by omega) (by decide) (by decide))) ?_
                  refine lv_istore (lv' := [(4, .int (nI (a / 10))), (3, .int 0), (2, .int (nI (df + 1))), (5, .int (nI b)), (6, .int (nI i))]) hx hb d_K_isLike_101 hl (by decide) rfl (fun ls hl => ?_)
                  refine lv_iload hx hb d_K_isLike_103 (lv_at hl 3 rfl) ?_
                  refine lv_bipush (v := 10) hx hb d_K_isLike_105 (by decide) ?_
                  refine lv_idiv hx hb d_K_isLike_107 (by decide) ?_
                  refine W.eq (congrArg (fun z => F0 m 108 ls (.int z :: [])) (show ((nI b) / 10) = (nI (b / 10)) from pk_div (d := 10) (by omega) (by decide) (by decide))) ?_
                  refine lv_istore (lv' := [(5, .int (nI (b / 10))), (4, .int (nI (a / 10))), (3, .int 0), (2, .int (nI (df + 1))), (6, .int (nI i))]) hx hb d_K_isLike_108 hl (by decide) rfl (fun ls hl => ?_)
                  refine lv_iinc (v := (nI (i + 1))) (lv' := [(6, .int (nI (i + 1))), (5, .int (nI (b / 10))), (4, .int (nI (a / 10))), (3, .int 0), (2, .int (nI (df + 1)))]) hx hb d_K_isLike_110 hl (k := 4) rfl (q_inc _) (by decide) rfl (fun ls hl => ?_)
                  refine lv_goto (tgt := 13) hx hb d_K_isLike_113 (by decide) ?_
                  exact ih f (df + 1) false (a / 10) (b / 10) (i + 1) (by omega) (by omega) (by omega) (by omega) (by omega) (by rw [← hf]; simp only [likL, if_neg c5, c8, if_neg c9, if_pos c10, if_neg c11, Bool.false_eq_true, if_false, if_true]) _ (lv_sub hl [4, 3, 2, 1, 0] rfl)
                · refine lv_iconst (v := 1) hx hb d_K_isLike_90 (by decide) ?_
                  refine lv_goto (tgt := 95) hx hb d_K_isLike_91 (by decide) ?_
                  refine lv_istore_n (lv' := [(3, .int 1), (2, .int (nI (df + 1))), (4, .int (nI a)), (5, .int (nI b)), (6, .int (nI i))]) hx hb d_K_isLike_95 rfl hl (by decide) rfl (fun ls hl => ?_)
                  refine lv_iload hx hb d_K_isLike_96 (lv_at hl 2 rfl) ?_
                  refine lv_bipush (v := 10) hx hb d_K_isLike_98 (by decide) ?_
                  refine lv_idiv hx hb d_K_isLike_100 (by decide) ?_
                  refine W.eq (congrArg (fun z => F0 m 101 ls (.int z :: [])) (show ((nI a) / 10) = (nI (a / 10)) from pk_div (d := 10) (by omega) (by decide) (by decide))) ?_
                  refine lv_istore (lv' := [(4, .int (nI (a / 10))), (3, .int 1), (2, .int (nI (df + 1))), (5, .int (nI b)), (6, .int (nI i))]) hx hb d_K_isLike_101 hl (by decide) rfl (fun ls hl => ?_)
                  refine lv_iload hx hb d_K_isLike_103 (lv_at hl 3 rfl) ?_
                  refine lv_bipush (v := 10) hx hb d_K_isLike_105 (by decide) ?_
                  refine lv_idiv hx hb d_K_isLike_107 (by decide) ?_
                  refine W.eq (congrArg (fun z => F0 m 108 ls (.int z :: [])) (show ((nI b) / 10) = (nI (b / 10)) from pk_div (d := 10) (by omega) (by decide) (by decide))) ?_
                  refine lv_istore (lv' := [(5, .int (nI (b / 10))), (4, .int (nI (a / 10))), (3, .int 1), (2, .int (nI (df + 1))), (6, .int (nI i))]) hx hb d_K_isLike_108 hl (by decide) rfl (fun ls hl => ?_)
                  refine lv_iinc (v := (nI (i + 1))) (lv' := [(6, .int (nI (i + 1))), (5, .int (nI (b / 10))), (4, .int (nI (a / 10))), (3, .int 1), (2, .int (nI (df + 1)))]) hx hb d_K_isLike_110 hl (k := 4) rfl (q_inc _) (by decide) rfl (fun ls hl => ?_)
                  refine lv_goto (tgt := 13) hx hb d_K_isLike_113 (by decide) ?_
                  exact ih f (df + 1) true (a / 10) (b / 10) (i + 1) (by omega) (by omega) (by omega) (by omega) (by omega) (by rw [← hf]; simp only [likL, if_neg c5, c8, if_neg c9, if_pos c10, if_pos c11, Bool.false_eq_true, if_false, if_true]) _ (lv_sub hl [4, 3, 2, 1, 0] rfl)
  exact lp13 9 8 0 false a0 b0 0 rfl (by omega) (Nat.le_refl _) ha0 hb0 rfl _ (lv_sub hl [4, 3, 2, 1, 0] rfl)
set_option maxHeartbeats 4000000 in
set_option maxRecDepth 100000 in
theorem c_K_differing (l : Launch) (D : va_G) (an : Nat → Nat) (kn : Nat → ClassId) (h : Nat → Nat → Int32) (o : Nat → Bool) (u : Nat → Int32) (nb : Nat) (hnb : u 1 = nI nb) (hb6 : nb ≤ 60) (nl : Nat) (hnl : u 3 = nI nl) (hl2 : nl ≤ 200) (hab : abvOk (h 3) nb) : RD l y_K_differing (.code y_K_differing b_K_differing 5 (some .int) :: TB) ({ frames := 2, cells := 0, slots := 0, locals := 46 } : Room) [.ref (an 0)] D classes (wK an kn h o u) (tK kn) (nI (dgR h nb nl)) := by
  refine rd_of (by decide +kernel) (rfl) (Nat.le_of_ble_eq_true rfl) ?_
  intro p e s m args below meth c Q ls hx hb hml htb hown hP hK hl hret
  have hl : lv_has ls 5 [(0, .ref (an 0))] := hl
  refine lv_iconst (v := 0) hx hb d_K_differing_0 (by decide) ?_
  refine lv_istore_n (lv' := [(1, .int 0), (0, .ref (an 0))]) hx hb d_K_differing_1 rfl hl (by decide) rfl (fun ls hl => ?_)
  refine lv_iconst (v := 0) hx hb d_K_differing_2 (by decide) ?_
  refine lv_istore_n (lv' := [(2, .int 0), (1, .int 0), (0, .ref (an 0))]) hx hb d_K_differing_3 rfl hl (by decide) rfl (fun ls hl => ?_)
  have lp4 : ∀ (n : Nat) (i : Nat) (f : Nat), i ≤ nb → nb + 1 ≤ i + n → f = cntN (fun m => anyN (dgP h nb nl m) nb) i → ∀ (ls : Array Slot), lv_has ls 5 [(0, .ref (an 0)), (1, .int (nI f)), (2, .int (nI i))] → W p l e ({ frames := 2, cells := 0, slots := 0, locals := 46 } : Room) s m args below meth c s.heap [] 0 0 Q (F0 m 4 ls []) := by
    intro n
    induction n with
    | zero => intro i f hi hm hf ls hl; exact absurd hm (by omega)
    | succ n ih =>
      intro i f hi hm hf ls hl
      refine lv_iload_n hx hb d_K_differing_4 rfl (lv_at hl 2 rfl) ?_
      refine lv_aload_n hx hb d_K_differing_5 rfl (lv_at hl 0 rfl) ?_
      refine va_get (D := D) (ci := 4) (v := .int (nI nb)) (C := R_K) (T := F_K) (N := 22) hx hb htb iw_K hown hK hP 0 rfl rfl 1 (by decide) (htb _ mw_597) (fun _ h9 => h9) (congrArg (fun x => some (Value.int x)) hnb) d_K_differing_6 ?_
      refine q_icmp_ge (a := i) (b := nb) (tgt := 79) hx hb (by omega) (by omega) d_K_differing_9 (by decide) (fun c1 => ?_) (fun c1 => ?_)
      · refine lv_iload_n hx hb d_K_differing_79 rfl (lv_at hl 1 rfl) ?_
        exact hret _ _ _ (by show nI f = nI (cntN _ nb); rw [show i = nb by omega] at hf; rw [hf]) d_K_differing_80
      · refine lv_iconst (v := 0) hx hb d_K_differing_12 (by decide) ?_
        refine lv_istore_n (lv' := [(3, .int 0), (0, .ref (an 0)), (1, .int (nI f)), (2, .int (nI i))]) hx hb d_K_differing_13 rfl hl (by decide) rfl (fun ls hl => ?_)
        refine lv_iconst (v := 0) hx hb d_K_differing_14 (by decide) ?_
        refine lv_istore (lv' := [(4, .int 0), (3, .int 0), (0, .ref (an 0)), (1, .int (nI f)), (2, .int (nI i))]) hx hb d_K_differing_15 hl (by decide) rfl (fun ls hl => ?_)
        have lp17 : ∀ (n2 : Nat) (q : Nat) (st9 : Bool), q ≤ nb → nb + 1 ≤ q + n2 → st9 = anyN (dgP h nb nl i) q → ∀ (ls : Array Slot), lv_has ls 5 [(0, .ref (an 0)), (1, .int (nI f)), (2, .int (nI i)), (3, .int (bI st9)), (4, .int (nI q))] → W p l e ({ frames := 2, cells := 0, slots := 0, locals := 46 } : Room) s m args below meth c s.heap [] 0 0 Q (F0 m 17 ls []) := by
          intro n2
          induction n2 with
          | zero => intro q st9 hq hm2 hst ls hl; exact absurd hm2 (by omega)
          | succ n2 ih2 =>
            intro q st9 hq hm2 hst ls hl
            refine lv_iload hx hb d_K_differing_17 (lv_at hl 4 rfl) ?_
            refine lv_aload_n hx hb d_K_differing_19 rfl (lv_at hl 0 rfl) ?_
            refine va_get (D := D) (ci := 4) (v := .int (nI nb)) (C := R_K) (T := F_K) (N := 22) hx hb htb iw_K hown hK hP 0 rfl rfl 1 (by decide) (htb _ mw_597) (fun _ h9 => h9) (congrArg (fun x => some (Value.int x)) hnb) d_K_differing_20 ?_
            refine q_icmp_ge (a := q) (b := nb) (tgt := 61) hx hb (by omega) (by omega) d_K_differing_23 (by decide) (fun c2 => ?_) (fun c2 => ?_)
            · refine lv_iload_n hx hb d_K_differing_61 rfl (lv_at hl 1 rfl) ?_
              refine lv_iload_n hx hb d_K_differing_62 rfl (lv_at hl 3 rfl) ?_
              refine lv_if_eq (tgt := 70) hx hb d_K_differing_63 (by decide) (fun c3 => ?_) (fun c3 => ?_)
              · replace c3 := bI_f c3
                refine lv_iconst (v := 0) hx hb d_K_differing_70 (by decide) ?_
                refine lv_iadd hx hb d_K_differing_71 ?_
                refine W.eq (congrArg (fun z => F0 m 72 ls (.int z :: [])) (show ((nI f) + 0) = (nI f) from Int32.add_zero _)) ?_
                refine lv_istore_n (lv' := [(1, .int (nI f)), (0, .ref (an 0)), (2, .int (nI i)), (3, .int (bI st9)), (4, .int (nI q))]) hx hb d_K_differing_72 rfl hl (by decide) rfl (fun ls hl => ?_)
                refine lv_iinc (v := (nI (i + 1))) (lv' := [(2, .int (nI (i + 1))), (1, .int (nI f)), (0, .ref (an 0)), (3, .int (bI st9)), (4, .int (nI q))]) hx hb d_K_differing_73 hl (k := 2) rfl (q_inc _) (by decide) rfl (fun ls hl => ?_)
                refine lv_goto (tgt := 4) hx hb d_K_differing_76 (by decide) ?_
                exact ih (i + 1) f (by omega) (by omega) (by rw [show q = nb by omega] at hst; rw [cntN_f (by rw [← hst]; assumption), hf]) _ (lv_sub hl [2, 1, 0] rfl)
              · replace c3 := bI_t c3
                refine lv_iconst (v := 1) hx hb d_K_differing_66 (by decide) ?_
                refine lv_goto (tgt := 71) hx hb d_K_differing_67 (by decide) ?_
                refine lv_iadd hx hb d_K_differing_71 ?_
                refine W.eq (congrArg (fun z => F0 m 72 ls (.int z :: [])) (show ((nI f) + 1) = (nI (f + 1)) from nI_1 _)) ?_
                refine lv_istore_n (lv' := [(1, .int (nI (f + 1))), (0, .ref (an 0)), (2, .int (nI i)), (3, .int (bI st9)), (4, .int (nI q))]) hx hb d_K_differing_72 rfl hl (by decide) rfl (fun ls hl => ?_)
                refine lv_iinc (v := (nI (i + 1))) (lv' := [(2, .int (nI (i + 1))), (1, .int (nI (f + 1))), (0, .ref (an 0)), (3, .int (bI st9)), (4, .int (nI q))]) hx hb d_K_differing_73 hl (k := 2) rfl (q_inc _) (by decide) rfl (fun ls hl => ?_)
                refine lv_goto (tgt := 4) hx hb d_K_differing_76 (by decide) ?_
                exact ih (i + 1) (f + 1) (by omega) (by omega) (by rw [show q = nb by omega] at hst; rw [cntN_t (by rw [← hst]; assumption), hf]) _ (lv_sub hl [2, 1, 0] rfl)
            · refine lv_iload_n hx hb d_K_differing_26 rfl (lv_at hl 3 rfl) ?_
              refine lv_if_ne (tgt := 49) hx hb d_K_differing_27 (by decide) (fun c4 => ?_) (fun c4 => ?_)
              · replace c4 := bI_t c4
                refine lv_iconst (v := 1) hx hb d_K_differing_49 (by decide) ?_
                refine lv_goto (tgt := 54) hx hb d_K_differing_50 (by decide) ?_
                refine lv_istore_n (lv' := [(3, .int 1), (0, .ref (an 0)), (1, .int (nI f)), (2, .int (nI i)), (4, .int (nI q))]) hx hb d_K_differing_54 rfl hl (by decide) rfl (fun ls hl => ?_)
                refine lv_iinc (v := (nI (q + 1))) (lv' := [(4, .int (nI (q + 1))), (3, .int 1), (0, .ref (an 0)), (1, .int (nI f)), (2, .int (nI i))]) hx hb d_K_differing_55 hl (k := 4) rfl (q_inc _) (by decide) rfl (fun ls hl => ?_)
                refine lv_goto (tgt := 17) hx hb d_K_differing_58 (by decide) ?_
                exact ih2 (q + 1) true (by omega) (by omega) (by show _ = (anyN (dgP h nb nl i) q || dgP h nb nl i q); rw [← hst]; simp [dgP, c1, c2, c4]) _ (lv_sub hl [2, 3, 4, 1, 0] rfl)
              · replace c4 := bI_f c4
                refine lv_aload_n hx hb d_K_differing_30 rfl (lv_at hl 0 rfl) ?_
                refine lv_iload hx hb d_K_differing_31 (lv_at hl 4 rfl) ?_
                refine rdV (As := [.int (nI q)]) (rest := []) (b := an 0) ⟨hx, hb, hml, hown, htb⟩ (c_K_masterOf l D an kn h o u nb hnb hb6 hab q (by omega)) (cwV (C := R_K) 1 htb (gV tb_good mw_797 mw_799 mw_23 mw_31 mw_800) rfl rfl rfl (by decide +kernel) ⟨Nat.le_of_ble_eq_true rfl, Nat.le_of_ble_eq_true rfl⟩) hP hK (va_recv hK hP (ci := 4) (q0 := 0) rfl rfl) rfl hl.1 rfl (lv_room (Nat.le_of_ble_eq_true rfl)) d_K_differing_33 ⟨Nat.zero_le _, Nat.zero_le _⟩ ?_
                have hml9 := masF_lt hab hb6 60 q (by omega)
                refine lv_iload_n hx hb d_K_differing_36 rfl (lv_at hl 2 rfl) ?_
                refine q_icmp_ne (a := (masF (h 3) 60 q)) (b := i) (tgt := 53) hx hb (by omega) (by omega) d_K_differing_37 (by decide) (fun c5 => ?_) (fun c5 => ?_)
                · refine lv_iconst (v := 0) hx hb d_K_differing_53 (by decide) ?_
                  refine lv_istore_n (lv' := [(3, .int 0), (0, .ref (an 0)), (1, .int (nI f)), (2, .int (nI i)), (4, .int (nI q))]) hx hb d_K_differing_54 rfl hl (by decide) rfl (fun ls hl => ?_)
                  refine lv_iinc (v := (nI (q + 1))) (lv' := [(4, .int (nI (q + 1))), (3, .int 0), (0, .ref (an 0)), (1, .int (nI f)), (2, .int (nI i))]) hx hb d_K_differing_55 hl (k := 4) rfl (q_inc _) (by decide) rfl (fun ls hl => ?_)
                  refine lv_goto (tgt := 17) hx hb d_K_differing_58 (by decide) ?_
                  exact ih2 (q + 1) false (by omega) (by omega) (by show _ = (anyN (dgP h nb nl i) q || dgP h nb nl i q); rw [← hst]; simp [dgP, c1, c2, c4, c5]) _ (lv_sub hl [2, 3, 4, 1, 0] rfl)
                · refine lv_aload_n hx hb d_K_differing_40 rfl (lv_at hl 0 rfl) ?_
                  refine lv_iload hx hb d_K_differing_41 (lv_at hl 4 rfl) ?_
                  refine rdV (As := [.int (nI q)]) (rest := []) (b := an 0) ⟨hx, hb, hml, hown, htb⟩ (c_K_differs l D an kn h o u nb hnb hb6 nl hnl hl2 (nI q)) (cwV (C := R_K) 1 htb (gV tb_good mw_789 mw_791 mw_21 mw_31 mw_792) rfl rfl rfl (by decide +kernel) ⟨Nat.le_of_ble_eq_true rfl, Nat.le_of_ble_eq_true rfl⟩) hP hK (va_recv hK hP (ci := 4) (q0 := 0) rfl rfl) rfl hl.1 rfl (lv_room (Nat.le_of_ble_eq_true rfl)) d_K_differing_43 ⟨Nat.zero_le _, Nat.zero_le _⟩ ?_
                  refine lv_if_eq (tgt := 53) hx hb d_K_differing_46 (by decide) (fun c6 => ?_) (fun c6 => ?_)
                  · refine lv_iconst (v := 0) hx hb d_K_differing_53 (by decide) ?_
                    refine lv_istore_n (lv' := [(3, .int 0), (0, .ref (an 0)), (1, .int (nI f)), (2, .int (nI i)), (4, .int (nI q))]) hx hb d_K_differing_54 rfl hl (by decide) rfl (fun ls hl => ?_)
                    refine lv_iinc (v := (nI (q + 1))) (lv' := [(4, .int (nI (q + 1))), (3, .int 0), (0, .ref (an 0)), (1, .int (nI f)), (2, .int (nI i))]) hx hb d_K_differing_55 hl (k := 4) rfl (q_inc _) (by decide) rfl (fun ls hl => ?_)
                    refine lv_goto (tgt := 17) hx hb d_K_differing_58 (by decide) ?_
                    exact ih2 (q + 1) false (by omega) (by omega) (by show _ = (anyN (dgP h nb nl i) q || dgP h nb nl i q); rw [← hst]; simp [dgP, c1, c2, c4, c5, c6]) _ (lv_sub hl [2, 3, 4, 1, 0] rfl)
                  · refine lv_iconst (v := 1) hx hb d_K_differing_49 (by decide) ?_
                    refine lv_goto (tgt := 54) hx hb d_K_differing_50 (by decide) ?_
                    refine lv_istore_n (lv' := [(3, .int 1), (0, .ref (an 0)), (1, .int (nI f)), (2, .int (nI i)), (4, .int (nI q))]) hx hb d_K_differing_54 rfl hl (by decide) rfl (fun ls hl => ?_)
                    refine lv_iinc (v := (nI (q + 1))) (lv' := [(4, .int (nI (q + 1))), (3, .int 1), (0, .ref (an 0)), (1, .int (nI f)), (2, .int (nI i))]) hx hb d_K_differing_55 hl (k := 4) rfl (q_inc _) (by decide) rfl (fun ls hl => ?_)
                    refine lv_goto (tgt := 17) hx hb d_K_differing_58 (by decide) ?_
                    exact ih2 (q + 1) true (by omega) (by omega) (by show _ = (anyN (dgP h nb nl i) q || dgP h nb nl i q); rw [← hst]; simp [dgP, c1, c2, c4, c5, c6]) _ (lv_sub hl [2, 3, 4, 1, 0] rfl)
        exact lp17 (nb + 1) 0 false (Nat.zero_le _) (by omega) rfl _ (lv_sub hl [2, 3, 4, 1, 0] rfl)
  exact lp4 (nb + 1) 0 0 (Nat.zero_le _) (by omega) rfl _ (lv_sub hl [2, 1, 0] rfl)
