set_option maxHeartbeats 4000000 in
set_option maxRecDepth 100000 in
theorem law_bill {REL : RelT} {p : Program} {l : Launch} {e : Env} {s : State} {m : MethodId} {args : Array Value} {below : List Frame} {meth : Method} {c : Code} {Q : State → Prop} {D : va_G} {ad an : Nat → Nat} {kd kn : Nat → ClassId} {oa : Nat} {ko : ClassId} {b L i C S : Nat} {xs : Nat → Int32} {g : Nat → Nat → Int32} {z : Nat → Int64} {v : Nat → Int32} {h : Nat → Nat → Int32} {o : Nat → Bool} {u : Nat → Int32} {fo : Nat → Int64} {H : Heap} {locs : List Loc} {cells slots : Nat} {ls : Array Slot}
    (F : LF p l s m args c D kd kn ko b L xs) (hi : i + 4 ≤ L) (hR : RETS REL l D ad an kd kn g z v h o u y_L_bill b_L_bill 6 [(0, 12, 15, 13), (0, 12, 19, 15)] y_K_bill b_K_bill 4 [.int (xs (i + 1)), .int (xs (i + 2)), .int (xs (i + 3))])
    (hP : va_P D classes (wLaw ad an kd kn oa ko g z v h o u fo) H) (hD : va_D (LA s) (wLaw ad an kd kn oa ko g z v h o u fo)) (hS : va_S (LA s) s.heap H locs) (hc : cells + 1 ≤ C) (hs : slots + 6 ≤ S) (hC : C ≤ 1081) (hSS : S ≤ 14679)
    (kk : GO REL p l e s m args below meth c Q D ad an kd kn oa ko b i C S) (hl : lv_has ls 7 [(0, .ref b), (1, .ref (ad 0)), (2, .ref (an 0)), (3, .ref oa), (4, .int (nI i))]) :
    W p l e room_1 s m args below meth c H locs cells slots Q (F0 m 116 ls []) := by
  obtain ⟨hx, hb, hml, hown, htb, hX, hbl, hKA, hKK, hKO, -, hL⟩ := id F
  have hbA : ¬ LA s b := Nat.not_le.mpr hbl
  have hA : ∀ q : Nat, s.heap.size ≤ q → LA s q := fun _ h => h
  have hcc : cells ≤ room_1.cells := by show cells ≤ 1081; omega
  have hss : slots ≤ room_1.slots := by show slots ≤ 14679; omega
  have hcc1 : cells + 1 ≤ room_1.cells := by show cells + 1 ≤ 1081; omega
  have hss6 : slots + 6 ≤ room_1.slots := by show slots + 6 ≤ 14679; omega
  unfold wLaw at hP hD
  rcases hR with ⟨r, g', z', v', h', o', u', rL, rK, hRL, hRK, hML, hMK, hu0, hREL⟩ | ⟨k, r, rL, rK, hRL, hRK, hML, hMK, hk0, hREL⟩
  · refine lv_aload_n hx hb d_L_law_116 rfl (lv_at hl 1 rfl) ?_
    refine lv_aload_n hx hb d_L_law_117 rfl (lv_at hl 0 rfl) ?_
    refine lv_iload hx hb d_L_law_118 (lv_at hl 4 rfl) ?_
    refine lv_iconst (v := 1) hx hb d_L_law_120 (by decide) ?_
    refine lv_iadd hx hb d_L_law_121 ?_
    refine W.eq (congrArg (fun z => F0 m 122 ls (.int z :: [.ref b, .ref (ad 0)])) (show ((nI i) + 1) = (nI (i + 1)) from nI_add i 1)) ?_
    refine q_sld hx hb hX hbl hbA hS (i + 1) (by omega) (by omega) d_L_law_122 ?_
    refine lv_aload_n hx hb d_L_law_123 rfl (lv_at hl 0 rfl) ?_
    refine lv_iload hx hb d_L_law_124 (lv_at hl 4 rfl) ?_
    refine lv_iconst (v := 2) hx hb d_L_law_126 (by decide) ?_
    refine lv_iadd hx hb d_L_law_127 ?_
    refine W.eq (congrArg (fun z => F0 m 128 ls (.int z :: [.ref b, .int (xs (i + 1)), .ref (ad 0)])) (show ((nI i) + 2) = (nI (i + 2)) from nI_add i 2)) ?_
    refine q_sld hx hb hX hbl hbA hS (i + 2) (by omega) (by omega) d_L_law_128 ?_
    refine lv_aload_n hx hb d_L_law_129 rfl (lv_at hl 0 rfl) ?_
    refine lv_iload hx hb d_L_law_130 (lv_at hl 4 rfl) ?_
    refine lv_iconst (v := 3) hx hb d_L_law_132 (by decide) ?_
    refine lv_iadd hx hb d_L_law_133 ?_
    refine W.eq (congrArg (fun z => F0 m 134 ls (.int z :: [.ref b, .int (xs (i + 2)), .int (xs (i + 1)), .ref (ad 0)])) (show ((nI i) + 3) = (nI (i + 3)) from nI_add i 3)) ?_
    refine q_sld hx hb hX hbl hbA hS (i + 3) (by omega) (by omega) d_L_law_134 ?_
    refine lv_aload_n hx hb d_L_law_135 rfl (lv_at hl 3 rfl) ?_
    refine wrSW (As := [.ref (ad 0), .int (xs (i + 1)), .int (xs (i + 2)), .int (xs (i + 3)), .ref oa]) (rest := []) ⟨hx, hb, hml, hown, htb⟩ (hML oa ko fo) (cwSW 5 htb mw_282 mw_283 mw_26 mw_284 hRL.1 hRL.2.1 (by decide +kernel) ⟨hRL.2.2.1, hRL.2.2.2⟩) (va_P_r hP) (va_P_l hP) hD rfl (hKO.app hKA) hS hA rfl hl.1 rfl (lv_room (Nat.le_of_ble_eq_true rfl)) d_L_law_136 ⟨hcc, hss⟩ (fun H locs hP1 hPk hD hS => ?_)
    refine lv_istore (lv' := [(5, .int 0), (0, .ref b), (1, .ref (ad 0)), (2, .ref (an 0)), (3, .ref oa), (4, .int (nI i))]) hx hb d_L_law_139 hl (by decide) rfl (fun ls hl => ?_)
    refine lv_aload_n hx hb d_L_law_141 rfl (lv_at hl 3 rfl) ?_
    refine lv_aload_n hx hb d_L_law_142 rfl (lv_at hl 1 rfl) ?_
    refine lv_iload hx hb d_L_law_143 (lv_at hl 5 rfl) ?_
    refine lv_iconst (v := 1) hx hb d_L_law_145 (by decide) ?_
    refine lv_iadd hx hb d_L_law_146 ?_
    refine W.eq (congrArg (fun z => F0 m 147 ls (.int z :: [.ref b, .ref (an 0)])) (show ((nI i) + 1) = (nI (i + 1)) from nI_add i 1)) ?_
    refine q_sld hx hb hX hbl hbA hS (i + 1) (by omega) (by omega) d_L_law_147 ?_
    refine lv_aload_n hx hb d_L_law_148 rfl (lv_at hl 1 rfl) ?_
    refine lv_iload hx hb d_L_law_149 (lv_at hl 5 rfl) ?_
    refine lv_iconst (v := 2) hx hb d_L_law_151 (by decide) ?_
    refine lv_iadd hx hb d_L_law_152 ?_
    refine W.eq (congrArg (fun z => F0 m 153 ls (.int z :: [.ref b, .int (xs (i + 1)), .ref (an 0)])) (show ((nI i) + 2) = (nI (i + 2)) from nI_add i 2)) ?_
    refine q_sld hx hb hX hbl hbA hS (i + 2) (by omega) (by omega) d_L_law_153 ?_
    refine lv_aload_n hx hb d_L_law_154 rfl (lv_at hl 1 rfl) ?_
    refine lv_iload hx hb d_L_law_155 (lv_at hl 5 rfl) ?_
    refine lv_iconst (v := 3) hx hb d_L_law_157 (by decide) ?_
    refine lv_iadd hx hb d_L_law_158 ?_
    refine W.eq (congrArg (fun z => F0 m 159 ls (.int z :: [.ref b, .int (xs (i + 2)), .int (xs (i + 1)), .ref (an 0)])) (show ((nI i) + 3) = (nI (i + 3)) from nI_add i 3)) ?_
    refine q_sld hx hb hX hbl hbA hS (i + 3) (by omega) (by omega) d_L_law_159 ?_
    refine wrVF (As := [.int (xs (i + 1)), .int (xs (i + 2)), .int (xs (i + 3))]) (rest := []) (b := an 0) ⟨hx, hb, hml, hown, htb⟩ hMK (cwV (C := R_K) 3 htb (gV tb_good mw_668 mw_669 mw_670 mw_31 mw_671) rfl hRK.1 hRK.2.1 (by decide +kernel) ⟨hRK.2.2.1, hRK.2.2.2⟩) hPk hP1 (D_swap hD) rfl hKK hS hA (va_recv hKK hPk (ci := 4) (q0 := 0) rfl rfl) rfl hl.1 rfl (lv_room (Nat.le_of_ble_eq_true rfl)) d_L_law_160 ⟨hcc, hss⟩ (fun H locs hPk hP1 hD hS => ?_)
    have hD := D_swap hD
    refine lv_istore (lv' := [(6, .int r), (5, .int 0), (0, .ref b), (1, .ref (ad 0)), (2, .ref (an 0)), (3, .ref oa), (4, .int (nI i))]) hx hb d_L_law_163 hl (by decide) rfl (fun ls hl => ?_)
    refine lv_aload_n hx hb d_L_law_165 rfl (lv_at hl 4 rfl) ?_
    refine rdV (As := []) (rest := []) (b := an 0) ⟨hx, hb, hml, hown, htb⟩ (c_K_thrown l D an kn h' o' u') (cwV (C := R_K) 0 htb (gV tb_good mw_664 mw_665 mw_666 mw_31 mw_667) rfl rfl rfl (by decide +kernel) ⟨Nat.le_of_ble_eq_true rfl, Nat.le_of_ble_eq_true rfl⟩) hPk hKK (va_recv hKK hPk (ci := 4) (q0 := 0) rfl rfl) rfl hl.1 rfl (lv_room (Nat.le_of_ble_eq_true rfl)) d_L_law_166 ⟨hcc, hss⟩ ?_
    refine W.eq (congrArg (fun z => F0 m 169 ls (.int z :: [])) (show (u' 0) = 0 from hu0)) ?_
    refine lv_iload hx hb d_L_law_169 (lv_at hl 1 rfl) ?_
    refine lv_icmp_eq (tgt := 176) hx hb d_L_law_171 (by decide) (fun c1 => ?_) (fun c1 => ?_)
    · refine lv_iload hx hb d_L_law_176 (lv_at hl 1 rfl) ?_
      refine lv_if_ne (tgt := 193) hx hb d_L_law_178 (by decide) (fun c2 => ?_) (fun c2 => ?_)
      · exact absurd c2 (by decide)
      · refine lv_aload_n hx hb d_L_law_181 rfl (lv_at hl 5 rfl) ?_
        refine lv_iconst (v := 0) hx hb d_L_law_182 (by decide) ?_
        refine q_lald hx hb hKO (va_P_l hP1) 0 0 rfl rfl 0 (by decide) (by decide) d_L_law_183 ?_
        refine W.eq (congrArg (fun z => F0 m 184 ls (.long z :: [])) (show (vp_updL fo 0 r.toInt64 0) = r.toInt64 from rfl)) ?_
        refine lv_iload hx hb d_L_law_184 (lv_at hl 0 rfl) ?_
        refine lv_i2l (v := (r).toInt64) hx hb d_L_law_186 rfl ?_
        refine W.lcmp hx hb d_L_law_187 ?_
        refine W.eq (congrArg (fun z => F0 m 188 ls (.int z :: [])) (show (lg_cmp r.toInt64 ((r).toInt64)) = 0 from lgc _)) ?_
        refine lv_if_eq (tgt := 193) hx hb d_L_law_188 (by decide) (fun c3 => ?_) (fun c3 => ?_)
        · refine lv_goto (tgt := 1066) hx hb d_L_law_193 (by decide) ?_
          exact kk g' z' v' h' o' u' (vp_updL fo 0 r.toInt64) _ _ _ _ _ hREL (hPk.app hP1) hD hS (by omega) (by omega) (lv_sub hl [2, 3, 4, 5, 6] rfl)
        · exact absurd c3 (by decide)
    · exact absurd c1 (by decide)
  · refine lv_aload_n hx hb d_L_law_116 rfl (lv_at hl 1 rfl) ?_
    refine lv_aload_n hx hb d_L_law_117 rfl (lv_at hl 0 rfl) ?_
    refine lv_iload hx hb d_L_law_118 (lv_at hl 4 rfl) ?_
    refine lv_iconst (v := 1) hx hb d_L_law_120 (by decide) ?_
    refine lv_iadd hx hb d_L_law_121 ?_
    refine W.eq (congrArg (fun z => F0 m 122 ls (.int z :: [.ref b, .ref (ad 0)])) (show ((nI i) + 1) = (nI (i + 1)) from nI_add i 1)) ?_
    refine q_sld hx hb hX hbl hbA hS (i + 1) (by omega) (by omega) d_L_law_122 ?_
    refine lv_aload_n hx hb d_L_law_123 rfl (lv_at hl 0 rfl) ?_
    refine lv_iload hx hb d_L_law_124 (lv_at hl 4 rfl) ?_
    refine lv_iconst (v := 2) hx hb d_L_law_126 (by decide) ?_
    refine lv_iadd hx hb d_L_law_127 ?_
    refine W.eq (congrArg (fun z => F0 m 128 ls (.int z :: [.ref b, .int (xs (i + 1)), .ref (ad 0)])) (show ((nI i) + 2) = (nI (i + 2)) from nI_add i 2)) ?_
    refine q_sld hx hb hX hbl hbA hS (i + 2) (by omega) (by omega) d_L_law_128 ?_
    refine lv_aload_n hx hb d_L_law_129 rfl (lv_at hl 0 rfl) ?_
    refine lv_iload hx hb d_L_law_130 (lv_at hl 4 rfl) ?_
    refine lv_iconst (v := 3) hx hb d_L_law_132 (by decide) ?_
    refine lv_iadd hx hb d_L_law_133 ?_
    refine W.eq (congrArg (fun z => F0 m 134 ls (.int z :: [.ref b, .int (xs (i + 2)), .int (xs (i + 1)), .ref (ad 0)])) (show ((nI i) + 3) = (nI (i + 3)) from nI_add i 3)) ?_
    refine q_sld hx hb hX hbl hbA hS (i + 3) (by omega) (by omega) d_L_law_134 ?_
    refine lv_aload_n hx hb d_L_law_135 rfl (lv_at hl 3 rfl) ?_
    refine wtSW (As := [.ref (ad 0), .int (xs (i + 1)), .int (xs (i + 2)), .int (xs (i + 3)), .ref oa]) (rest := []) ⟨hx, hb, hml, hown, htb⟩ (hML oa) (cwSW 5 htb mw_282 mw_283 mw_26 mw_284 hRL.1 hRL.2.1 (by decide +kernel) ⟨hRL.2.2.1, hRL.2.2.2⟩) (va_P_r (va_P_r hP)) hKA (F.xg hS) hS hA rfl hl.1 rfl (lv_room (Nat.le_of_ble_eq_true rfl)) d_L_law_136 ⟨hcc1, hss6⟩ (fun H locs hz hk hS => ?_)
    have hP := hP.kept (fun k q hq => hk q.1 (hP k q hq).lt)
    have hP1 := va_P_r hP
    have hPk := va_P_l hP
    refine lv_istore (lv' := [(5, .int k), (0, .ref b), (1, .ref (ad 0)), (2, .ref (an 0)), (3, .ref oa), (4, .int (nI i))]) hx hb d_L_law_139 hl (by decide) rfl (fun ls hl => ?_)
    refine lv_aload_n hx hb d_L_law_141 rfl (lv_at hl 3 rfl) ?_
    refine lv_aload_n hx hb d_L_law_142 rfl (lv_at hl 1 rfl) ?_
    refine lv_iload hx hb d_L_law_143 (lv_at hl 5 rfl) ?_
    refine lv_iconst (v := 1) hx hb d_L_law_145 (by decide) ?_
    refine lv_iadd hx hb d_L_law_146 ?_
    refine W.eq (congrArg (fun z => F0 m 147 ls (.int z :: [.ref b, .ref (an 0)])) (show ((nI i) + 1) = (nI (i + 1)) from nI_add i 1)) ?_
    refine q_sld hx hb hX hbl hbA hS (i + 1) (by omega) (by omega) d_L_law_147 ?_
    refine lv_aload_n hx hb d_L_law_148 rfl (lv_at hl 1 rfl) ?_
    refine lv_iload hx hb d_L_law_149 (lv_at hl 5 rfl) ?_
    refine lv_iconst (v := 2) hx hb d_L_law_151 (by decide) ?_
    refine lv_iadd hx hb d_L_law_152 ?_
    refine W.eq (congrArg (fun z => F0 m 153 ls (.int z :: [.ref b, .int (xs (i + 1)), .ref (an 0)])) (show ((nI i) + 2) = (nI (i + 2)) from nI_add i 2)) ?_
    refine q_sld hx hb hX hbl hbA hS (i + 2) (by omega) (by omega) d_L_law_153 ?_
    refine lv_aload_n hx hb d_L_law_154 rfl (lv_at hl 1 rfl) ?_
    refine lv_iload hx hb d_L_law_155 (lv_at hl 5 rfl) ?_
    refine lv_iconst (v := 3) hx hb d_L_law_157 (by decide) ?_
    refine lv_iadd hx hb d_L_law_158 ?_
    refine W.eq (congrArg (fun z => F0 m 159 ls (.int z :: [.ref b, .int (xs (i + 2)), .int (xs (i + 1)), .ref (an 0)])) (show ((nI i) + 3) = (nI (i + 3)) from nI_add i 3)) ?_
    refine q_sld hx hb hX hbl hbA hS (i + 3) (by omega) (by omega) d_L_law_159 ?_
    refine wrVF (As := [.int (xs (i + 1)), .int (xs (i + 2)), .int (xs (i + 3))]) (rest := []) (b := an 0) ⟨hx, hb, hml, hown, htb⟩ hMK (cwV (C := R_K) 3 htb (gV tb_good mw_668 mw_669 mw_670 mw_31 mw_671) rfl hRK.1 hRK.2.1 (by decide +kernel) ⟨hRK.2.2.1, hRK.2.2.2⟩) hPk hP1 (D_swap hD) rfl hKK hS hA (va_recv hKK hPk (ci := 4) (q0 := 0) rfl rfl) rfl hl.1 rfl (lv_room (Nat.le_of_ble_eq_true rfl)) d_L_law_160 ⟨hcc1, hss6⟩ (fun H locs hPk hP1 hD hS => ?_)
    have hD := D_swap hD
    refine lv_istore (lv' := [(6, .int r), (5, .int k), (0, .ref b), (1, .ref (ad 0)), (2, .ref (an 0)), (3, .ref oa), (4, .int (nI i))]) hx hb d_L_law_163 hl (by decide) rfl (fun ls hl => ?_)
    refine lv_aload_n hx hb d_L_law_165 rfl (lv_at hl 4 rfl) ?_
    refine rdV (As := []) (rest := []) (b := an 0) ⟨hx, hb, hml, hown, htb⟩ (c_K_thrown l D an kn h o (upd u 0 k)) (cwV (C := R_K) 0 htb (gV tb_good mw_664 mw_665 mw_666 mw_31 mw_667) rfl rfl rfl (by decide +kernel) ⟨Nat.le_of_ble_eq_true rfl, Nat.le_of_ble_eq_true rfl⟩) hPk hKK (va_recv hKK hPk (ci := 4) (q0 := 0) rfl rfl) rfl hl.1 rfl (lv_room (Nat.le_of_ble_eq_true rfl)) d_L_law_166 ⟨hcc1, hss6⟩ ?_
    refine W.eq (congrArg (fun z => F0 m 169 ls (.int z :: [])) (show (upd u 0 k 0) = k from rfl)) ?_
    refine lv_iload hx hb d_L_law_169 (lv_at hl 1 rfl) ?_
    refine lv_icmp_eq (tgt := 176) hx hb d_L_law_171 (by decide) (fun c1 => ?_) (fun c1 => ?_)
    · refine lv_iload hx hb d_L_law_176 (lv_at hl 1 rfl) ?_
      refine lv_if_ne (tgt := 193) hx hb d_L_law_178 (by decide) (fun c2 => ?_) (fun c2 => ?_)
      · refine lv_goto (tgt := 1066) hx hb d_L_law_193 (by decide) ?_
        exact kk g z v h o (upd u 0 k) fo _ _ _ _ _ hREL (hPk.app hP1) hD hS (by omega) (by omega) (lv_sub hl [2, 3, 4, 5, 6] rfl)
      · exact absurd c2 hk0
    · exact absurd rfl c1
set_option maxHeartbeats 4000000 in
set_option maxRecDepth 100000 in
theorem law_line {REL : RelT} {p : Program} {l : Launch} {e : Env} {s : State} {m : MethodId} {args : Array Value} {below : List Frame} {meth : Method} {c : Code} {Q : State → Prop} {D : va_G} {ad an : Nat → Nat} {kd kn : Nat → ClassId} {oa : Nat} {ko : ClassId} {b L i C S : Nat} {xs : Nat → Int32} {g : Nat → Nat → Int32} {z : Nat → Int64} {v : Nat → Int32} {h : Nat → Nat → Int32} {o : Nat → Bool} {u : Nat → Int32} {fo : Nat → Int64} {H : Heap} {locs : List Loc} {cells slots : Nat} {ls : Array Slot}
    (F : LF p l s m args c D kd kn ko b L xs) (hi : i + 4 ≤ L) (hR : RETS REL l D ad an kd kn g z v h o u y_L_line b_L_line 6 [(0, 12, 15, 13), (0, 12, 19, 15)] y_K_line b_K_line 4 [.int (xs (i + 1)), .int (xs (i + 2)), .int (xs (i + 3))])
    (hP : va_P D classes (wLaw ad an kd kn oa ko g z v h o u fo) H) (hD : va_D (LA s) (wLaw ad an kd kn oa ko g z v h o u fo)) (hS : va_S (LA s) s.heap H locs) (hc : cells + 1 ≤ C) (hs : slots + 6 ≤ S) (hC : C ≤ 1081) (hSS : S ≤ 14679)
    (kk : GO REL p l e s m args below meth c Q D ad an kd kn oa ko b i C S) (hl : lv_has ls 7 [(0, .ref b), (1, .ref (ad 0)), (2, .ref (an 0)), (3, .ref oa), (4, .int (nI i))]) :
    W p l e room_1 s m args below meth c H locs cells slots Q (F0 m 196 ls []) := by
  obtain ⟨hx, hb, hml, hown, htb, hX, hbl, hKA, hKK, hKO, -, hL⟩ := id F
  have hbA : ¬ LA s b := Nat.not_le.mpr hbl
  have hA : ∀ q : Nat, s.heap.size ≤ q → LA s q := fun _ h => h
  have hcc : cells ≤ room_1.cells := by show cells ≤ 1081; omega
  have hss : slots ≤ room_1.slots := by show slots ≤ 14679; omega
  have hcc1 : cells + 1 ≤ room_1.cells := by show cells + 1 ≤ 1081; omega
  have hss6 : slots + 6 ≤ room_1.slots := by show slots + 6 ≤ 14679; omega
  unfold wLaw at hP hD
  rcases hR with ⟨r, g', z', v', h', o', u', rL, rK, hRL, hRK, hML, hMK, hu0, hREL⟩ | ⟨k, r, rL, rK, hRL, hRK, hML, hMK, hk0, hREL⟩
  · refine lv_aload_n hx hb d_L_law_196 rfl (lv_at hl 1 rfl) ?_
    refine lv_aload_n hx hb d_L_law_197 rfl (lv_at hl 0 rfl) ?_
    refine lv_iload hx hb d_L_law_198 (lv_at hl 4 rfl) ?_
    refine lv_iconst (v := 1) hx hb d_L_law_200 (by decide) ?_
    refine lv_iadd hx hb d_L_law_201 ?_
    refine W.eq (congrArg (fun z => F0 m 202 ls (.int z :: [.ref b, .ref (ad 0)])) (show ((nI i) + 1) = (nI (i + 1)) from nI_add i 1)) ?_
    refine q_sld hx hb hX hbl hbA hS (i + 1) (by omega) (by omega) d_L_law_202 ?_
    refine lv_aload_n hx hb d_L_law_203 rfl (lv_at hl 0 rfl) ?_
    refine lv_iload hx hb d_L_law_204 (lv_at hl 4 rfl) ?_
    refine lv_iconst (v := 2) hx hb d_L_law_206 (by decide) ?_
    refine lv_iadd hx hb d_L_law_207 ?_
    refine W.eq (congrArg (fun z => F0 m 208 ls (.int z :: [.ref b, .int (xs (i + 1)), .ref (ad 0)])) (show ((nI i) + 2) = (nI (i + 2)) from nI_add i 2)) ?_
    refine q_sld hx hb hX hbl hbA hS (i + 2) (by omega) (by omega) d_L_law_208 ?_
    refine lv_aload_n hx hb d_L_law_209 rfl (lv_at hl 0 rfl) ?_
    refine lv_iload hx hb d_L_law_210 (lv_at hl 4 rfl) ?_
    refine lv_iconst (v := 3) hx hb d_L_law_212 (by decide) ?_
    refine lv_iadd hx hb d_L_law_213 ?_
    refine W.eq (congrArg (fun z => F0 m 214 ls (.int z :: [.ref b, .int (xs (i + 2)), .int (xs (i + 1)), .ref (ad 0)])) (show ((nI i) + 3) = (nI (i + 3)) from nI_add i 3)) ?_
    refine q_sld hx hb hX hbl hbA hS (i + 3) (by omega) (by omega) d_L_law_214 ?_
    refine lv_aload_n hx hb d_L_law_215 rfl (lv_at hl 3 rfl) ?_
    refine wrSW (As := [.ref (ad 0), .int (xs (i + 1)), .int (xs (i + 2)), .int (xs (i + 3)), .ref oa]) (rest := []) ⟨hx, hb, hml, hown, htb⟩ (hML oa ko fo) (cwSW 5 htb mw_401 mw_402 mw_26 mw_403 hRL.1 hRL.2.1 (by decide +kernel) ⟨hRL.2.2.1, hRL.2.2.2⟩) (va_P_r hP) (va_P_l hP) hD rfl (hKO.app hKA) hS hA rfl hl.1 rfl (lv_room (Nat.le_of_ble_eq_true rfl)) d_L_law_216 ⟨hcc, hss⟩ (fun H locs hP1 hPk hD hS => ?_)
    refine lv_istore (lv' := [(5, .int 0), (0, .ref b), (1, .ref (ad 0)), (2, .ref (an 0)), (3, .ref oa), (4, .int (nI i))]) hx hb d_L_law_219 hl (by decide) rfl (fun ls hl => ?_)
    refine lv_aload_n hx hb d_L_law_221 rfl (lv_at hl 3 rfl) ?_
    refine lv_aload_n hx hb d_L_law_222 rfl (lv_at hl 1 rfl) ?_
    refine lv_iload hx hb d_L_law_223 (lv_at hl 5 rfl) ?_
    refine lv_iconst (v := 1) hx hb d_L_law_225 (by decide) ?_
    refine lv_iadd hx hb d_L_law_226 ?_
    refine W.eq (congrArg (fun z => F0 m 227 ls (.int z :: [.ref b, .ref (an 0)])) (show ((nI i) + 1) = (nI (i + 1)) from nI_add i 1)) ?_
    refine q_sld hx hb hX hbl hbA hS (i + 1) (by omega) (by omega) d_L_law_227 ?_
    refine lv_aload_n hx hb d_L_law_228 rfl (lv_at hl 1 rfl) ?_
    refine lv_iload hx hb d_L_law_229 (lv_at hl 5 rfl) ?_
    refine lv_iconst (v := 2) hx hb d_L_law_231 (by decide) ?_
    refine lv_iadd hx hb d_L_law_232 ?_
    refine W.eq (congrArg (fun z => F0 m 233 ls (.int z :: [.ref b, .int (xs (i + 1)), .ref (an 0)])) (show ((nI i) + 2) = (nI (i + 2)) from nI_add i 2)) ?_
    refine q_sld hx hb hX hbl hbA hS (i + 2) (by omega) (by omega) d_L_law_233 ?_
    refine lv_aload_n hx hb d_L_law_234 rfl (lv_at hl 1 rfl) ?_
    refine lv_iload hx hb d_L_law_235 (lv_at hl 5 rfl) ?_
    refine lv_iconst (v := 3) hx hb d_L_law_237 (by decide) ?_
    refine lv_iadd hx hb d_L_law_238 ?_
    refine W.eq (congrArg (fun z => F0 m 239 ls (.int z :: [.ref b, .int (xs (i + 2)), .int (xs (i + 1)), .ref (an 0)])) (show ((nI i) + 3) = (nI (i + 3)) from nI_add i 3)) ?_
    refine q_sld hx hb hX hbl hbA hS (i + 3) (by omega) (by omega) d_L_law_239 ?_
    refine wrVF (As := [.int (xs (i + 1)), .int (xs (i + 2)), .int (xs (i + 3))]) (rest := []) (b := an 0) ⟨hx, hb, hml, hown, htb⟩ hMK (cwV (C := R_K) 3 htb (gV tb_good mw_692 mw_693 mw_694 mw_31 mw_695) rfl hRK.1 hRK.2.1 (by decide +kernel) ⟨hRK.2.2.1, hRK.2.2.2⟩) hPk hP1 (D_swap hD) rfl hKK hS hA (va_recv hKK hPk (ci := 4) (q0 := 0) rfl rfl) rfl hl.1 rfl (lv_room (Nat.le_of_ble_eq_true rfl)) d_L_law_240 ⟨hcc, hss⟩ (fun H locs hPk hP1 hD hS => ?_)
    have hD := D_swap hD
    refine lv_istore (lv' := [(6, .int r), (5, .int 0), (0, .ref b), (1, .ref (ad 0)), (2, .ref (an 0)), (3, .ref oa), (4, .int (nI i))]) hx hb d_L_law_243 hl (by decide) rfl (fun ls hl => ?_)
    refine lv_aload_n hx hb d_L_law_245 rfl (lv_at hl 4 rfl) ?_
    refine rdV (As := []) (rest := []) (b := an 0) ⟨hx, hb, hml, hown, htb⟩ (c_K_thrown l D an kn h' o' u') (cwV (C := R_K) 0 htb (gV tb_good mw_664 mw_665 mw_666 mw_31 mw_667) rfl rfl rfl (by decide +kernel) ⟨Nat.le_of_ble_eq_true rfl, Nat.le_of_ble_eq_true rfl⟩) hPk hKK (va_recv hKK hPk (ci := 4) (q0 := 0) rfl rfl) rfl hl.1 rfl (lv_room (Nat.le_of_ble_eq_true rfl)) d_L_law_246 ⟨hcc, hss⟩ ?_
    refine W.eq (congrArg (fun z => F0 m 249 ls (.int z :: [])) (show (u' 0) = 0 from hu0)) ?_
    refine lv_iload hx hb d_L_law_249 (lv_at hl 1 rfl) ?_
    refine lv_icmp_eq (tgt := 256) hx hb d_L_law_251 (by decide) (fun c1 => ?_) (fun c1 => ?_)
    · refine lv_iload hx hb d_L_law_256 (lv_at hl 1 rfl) ?_
      refine lv_if_ne (tgt := 273) hx hb d_L_law_258 (by decide) (fun c2 => ?_) (fun c2 => ?_)
      · exact absurd c2 (by decide)
      · refine lv_aload_n hx hb d_L_law_261 rfl (lv_at hl 5 rfl) ?_
        refine lv_iconst (v := 0) hx hb d_L_law_262 (by decide) ?_
        refine q_lald hx hb hKO (va_P_l hP1) 0 0 rfl rfl 0 (by decide) (by decide) d_L_law_263 ?_
        refine W.eq (congrArg (fun z => F0 m 264 ls (.long z :: [])) (show (vp_updL fo 0 r.toInt64 0) = r.toInt64 from rfl)) ?_
        refine lv_iload hx hb d_L_law_264 (lv_at hl 0 rfl) ?_
        refine lv_i2l (v := (r).toInt64) hx hb d_L_law_266 rfl ?_
        refine W.lcmp hx hb d_L_law_267 ?_
        refine W.eq (congrArg (fun z => F0 m 268 ls (.int z :: [])) (show (lg_cmp r.toInt64 ((r).toInt64)) = 0 from lgc _)) ?_
        refine lv_if_eq (tgt := 273) hx hb d_L_law_268 (by decide) (fun c3 => ?_) (fun c3 => ?_)
        · refine lv_goto (tgt := 1066) hx hb d_L_law_273 (by decide) ?_
          exact kk g' z' v' h' o' u' (vp_updL fo 0 r.toInt64) _ _ _ _ _ hREL (hPk.app hP1) hD hS (by omega) (by omega) (lv_sub hl [2, 3, 4, 5, 6] rfl)
        · exact absurd c3 (by decide)
    · exact absurd c1 (by decide)
  · refine lv_aload_n hx hb d_L_law_196 rfl (lv_at hl 1 rfl) ?_
    refine lv_aload_n hx hb d_L_law_197 rfl (lv_at hl 0 rfl) ?_
    refine lv_iload hx hb d_L_law_198 (lv_at hl 4 rfl) ?_
    refine lv_iconst (v := 1) hx hb d_L_law_200 (by decide) ?_
    refine lv_iadd hx hb d_L_law_201 ?_
    refine W.eq (congrArg (fun z => F0 m 202 ls (.int z :: [.ref b, .ref (ad 0)])) (show ((nI i) + 1) = (nI (i + 1)) from nI_add i 1)) ?_
    refine q_sld hx hb hX hbl hbA hS (i + 1) (by omega) (by omega) d_L_law_202 ?_
    refine lv_aload_n hx hb d_L_law_203 rfl (lv_at hl 0 rfl) ?_
    refine lv_iload hx hb d_L_law_204 (lv_at hl 4 rfl) ?_
    refine lv_iconst (v := 2) hx hb d_L_law_206 (by decide) ?_
    refine lv_iadd hx hb d_L_law_207 ?_
    refine W.eq (congrArg (fun z => F0 m 208 ls (.int z :: [.ref b, .int (xs (i + 1)), .ref (ad 0)])) (show ((nI i) + 2) = (nI (i + 2)) from nI_add i 2)) ?_
    refine q_sld hx hb hX hbl hbA hS (i + 2) (by omega) (by omega) d_L_law_208 ?_
    refine lv_aload_n hx hb d_L_law_209 rfl (lv_at hl 0 rfl) ?_
    refine lv_iload hx hb d_L_law_210 (lv_at hl 4 rfl) ?_
    refine lv_iconst (v := 3) hx hb d_L_law_212 (by decide) ?_
    refine lv_iadd hx hb d_L_law_213 ?_
    refine W.eq (congrArg (fun z => F0 m 214 ls (.int z :: [.ref b, .int (xs (i + 2)), .int (xs (i + 1)), .ref (ad 0)])) (show ((nI i) + 3) = (nI (i + 3)) from nI_add i 3)) ?_
    refine q_sld hx hb hX hbl hbA hS (i + 3) (by omega) (by omega) d_L_law_214 ?_
    refine lv_aload_n hx hb d_L_law_215 rfl (lv_at hl 3 rfl) ?_
    refine wtSW (As := [.ref (ad 0), .int (xs (i + 1)), .int (xs (i + 2)), .int (xs (i + 3)), .ref oa]) (rest := []) ⟨hx, hb, hml, hown, htb⟩ (hML oa) (cwSW 5 htb mw_401 mw_402 mw_26 mw_403 hRL.1 hRL.2.1 (by decide +kernel) ⟨hRL.2.2.1, hRL.2.2.2⟩) (va_P_r (va_P_r hP)) hKA (F.xg hS) hS hA rfl hl.1 rfl (lv_room (Nat.le_of_ble_eq_true rfl)) d_L_law_216 ⟨hcc1, hss6⟩ (fun H locs hz hk hS => ?_)
    have hP := hP.kept (fun k q hq => hk q.1 (hP k q hq).lt)
    have hP1 := va_P_r hP
    have hPk := va_P_l hP
    refine lv_istore (lv' := [(5, .int k), (0, .ref b), (1, .ref (ad 0)), (2, .ref (an 0)), (3, .ref oa), (4, .int (nI i))]) hx hb d_L_law_219 hl (by decide) rfl (fun ls hl => ?_)
    refine lv_aload_n hx hb d_L_law_221 rfl (lv_at hl 3 rfl) ?_
    refine lv_aload_n hx hb d_L_law_222 rfl (lv_at hl 1 rfl) ?_
    refine lv_iload hx hb d_L_law_223 (lv_at hl 5 rfl) ?_
    refine lv_iconst (v := 1) hx hb d_L_law_225 (by decide) ?_
    refine lv_iadd hx hb d_L_law_226 ?_
    refine W.eq (congrArg (fun z => F0 m 227 ls (.int z :: [.ref b, .ref (an 0)])) (show ((nI i) + 1) = (nI (i + 1)) from nI_add i 1)) ?_
    refine q_sld hx hb hX hbl hbA hS (i + 1) (by omega) (by omega) d_L_law_227 ?_
    refine lv_aload_n hx hb d_L_law_228 rfl (lv_at hl 1 rfl) ?_
    refine lv_iload hx hb d_L_law_229 (lv_at hl 5 rfl) ?_
    refine lv_iconst (v := 2) hx hb d_L_law_231 (by decide) ?_
    refine lv_iadd hx hb d_L_law_232 ?_
    refine W.eq (congrArg (fun z => F0 m 233 ls (.int z :: [.ref b, .int (xs (i + 1)), .ref (an 0)])) (show ((nI i) + 2) = (nI (i + 2)) from nI_add i 2)) ?_
    refine q_sld hx hb hX hbl hbA hS (i + 2) (by omega) (by omega) d_L_law_233 ?_
    refine lv_aload_n hx hb d_L_law_234 rfl (lv_at hl 1 rfl) ?_
    refine lv_iload hx hb d_L_law_235 (lv_at hl 5 rfl) ?_
    refine lv_iconst (v := 3) hx hb d_L_law_237 (by decide) ?_
    refine lv_iadd hx hb d_L_law_238 ?_
    refine W.eq (congrArg (fun z => F0 m 239 ls (.int z :: [.ref b, .int (xs (i + 2)), .int (xs (i + 1)), .ref (an 0)])) (show ((nI i) + 3) = (nI (i + 3)) from nI_add i 3)) ?_
    refine q_sld hx hb hX hbl hbA hS (i + 3) (by omega) (by omega) d_L_law_239 ?_
    refine wrVF (As := [.int (xs (i + 1)), .int (xs (i + 2)), .int (xs (i + 3))]) (rest := []) (b := an 0) ⟨hx, hb, hml, hown, htb⟩ hMK (cwV (C := R_K) 3 htb (gV tb_good mw_692 mw_693 mw_694 mw_31 mw_695) rfl hRK.1 hRK.2.1 (by decide +kernel) ⟨hRK.2.2.1, hRK.2.2.2⟩) hPk hP1 (D_swap hD) rfl hKK hS hA (va_recv hKK hPk (ci := 4) (q0 := 0) rfl rfl) rfl hl.1 rfl (lv_room (Nat.le_of_ble_eq_true rfl)) d_L_law_240 ⟨hcc1, hss6⟩ (fun H locs hPk hP1 hD hS => ?_)
    have hD := D_swap hD
    refine lv_istore (lv' := [(6, .int r), (5, .int k), (0, .ref b), (1, .ref (ad 0)), (2, .ref (an 0)), (3, .ref oa), (4, .int (nI i))]) hx hb d_L_law_243 hl (by decide) rfl (fun ls hl => ?_)
    refine lv_aload_n hx hb d_L_law_245 rfl (lv_at hl 4 rfl) ?_
    refine rdV (As := []) (rest := []) (b := an 0) ⟨hx, hb, hml, hown, htb⟩ (c_K_thrown l D an kn h o (upd u 0 k)) (cwV (C := R_K) 0 htb (gV tb_good mw_664 mw_665 mw_666 mw_31 mw_667) rfl rfl rfl (by decide +kernel) ⟨Nat.le_of_ble_eq_true rfl, Nat.le_of_ble_eq_true rfl⟩) hPk hKK (va_recv hKK hPk (ci := 4) (q0 := 0) rfl rfl) rfl hl.1 rfl (lv_room (Nat.le_of_ble_eq_true rfl)) d_L_law_246 ⟨hcc1, hss6⟩ ?_
    refine W.eq (congrArg (fun z => F0 m 249 ls (.int z :: [])) (show (upd u 0 k 0) = k from rfl)) ?_
    refine lv_iload hx hb d_L_law_249 (lv_at hl 1 rfl) ?_
    refine lv_icmp_eq (tgt := 256) hx hb d_L_law_251 (by decide) (fun c1 => ?_) (fun c1 => ?_)
    · refine lv_iload hx hb d_L_law_256 (lv_at hl 1 rfl) ?_
      refine lv_if_ne (tgt := 273) hx hb d_L_law_258 (by decide) (fun c2 => ?_) (fun c2 => ?_)
      · refine lv_goto (tgt := 1066) hx hb d_L_law_273 (by decide) ?_
        exact kk g z v h o (upd u 0 k) fo _ _ _ _ _ hREL (hPk.app hP1) hD hS (by omega) (by omega) (lv_sub hl [2, 3, 4, 5, 6] rfl)
      · exact absurd c2 hk0
    · exact absurd rfl c1
set_option maxHeartbeats 4000000 in
set_option maxRecDepth 100000 in
theorem law_box {REL : RelT} {p : Program} {l : Launch} {e : Env} {s : State} {m : MethodId} {args : Array Value} {below : List Frame} {meth : Method} {c : Code} {Q : State → Prop} {D : va_G} {ad an : Nat → Nat} {kd kn : Nat → ClassId} {oa : Nat} {ko : ClassId} {b L i C S : Nat} {xs : Nat → Int32} {g : Nat → Nat → Int32} {z : Nat → Int64} {v : Nat → Int32} {h : Nat → Nat → Int32} {o : Nat → Bool} {u : Nat → Int32} {fo : Nat → Int64} {H : Heap} {locs : List Loc} {cells slots : Nat} {ls : Array Slot}
    (F : LF p l s m args c D kd kn ko b L xs) (hi : i + 4 ≤ L) (hR : RETS REL l D ad an kd kn g z v h o u y_L_box b_L_box 6 [(0, 12, 15, 13), (0, 12, 19, 15)] y_K_box b_K_box 5 [.int (xs (i + 1)), .int (xs (i + 2)), .int (xs (i + 3))])
    (hP : va_P D classes (wLaw ad an kd kn oa ko g z v h o u fo) H) (hD : va_D (LA s) (wLaw ad an kd kn oa ko g z v h o u fo)) (hS : va_S (LA s) s.heap H locs) (hc : cells + 1 ≤ C) (hs : slots + 6 ≤ S) (hC : C ≤ 1081) (hSS : S ≤ 14679)
    (kk : GO REL p l e s m args below meth c Q D ad an kd kn oa ko b i C S) (hl : lv_has ls 7 [(0, .ref b), (1, .ref (ad 0)), (2, .ref (an 0)), (3, .ref oa), (4, .int (nI i))]) :
    W p l e room_1 s m args below meth c H locs cells slots Q (F0 m 276 ls []) := by
  obtain ⟨hx, hb, hml, hown, htb, hX, hbl, hKA, hKK, hKO, -, hL⟩ := id F
  have hbA : ¬ LA s b := Nat.not_le.mpr hbl
  have hA : ∀ q : Nat, s.heap.size ≤ q → LA s q := fun _ h => h
  have hcc : cells ≤ room_1.cells := by show cells ≤ 1081; omega
  have hss : slots ≤ room_1.slots := by show slots ≤ 14679; omega
  have hcc1 : cells + 1 ≤ room_1.cells := by show cells + 1 ≤ 1081; omega
  have hss6 : slots + 6 ≤ room_1.slots := by show slots + 6 ≤ 14679; omega
  unfold wLaw at hP hD
  rcases hR with ⟨r, g', z', v', h', o', u', rL, rK, hRL, hRK, hML, hMK, hu0, hREL⟩ | ⟨k, r, rL, rK, hRL, hRK, hML, hMK, hk0, hREL⟩
  · refine lv_aload_n hx hb d_L_law_276 rfl (lv_at hl 1 rfl) ?_
    refine lv_aload_n hx hb d_L_law_277 rfl (lv_at hl 0 rfl) ?_
    refine lv_iload hx hb d_L_law_278 (lv_at hl 4 rfl) ?_
    refine lv_iconst (v := 1) hx hb d_L_law_280 (by decide) ?_
    refine lv_iadd hx hb d_L_law_281 ?_
    refine W.eq (congrArg (fun z => F0 m 282 ls (.int z :: [.ref b, .ref (ad 0)])) (show ((nI i) + 1) = (nI (i + 1)) from nI_add i 1)) ?_
    refine q_sld hx hb hX hbl hbA hS (i + 1) (by omega) (by omega) d_L_law_282 ?_
    refine lv_aload_n hx hb d_L_law_283 rfl (lv_at hl 0 rfl) ?_
    refine lv_iload hx hb d_L_law_284 (lv_at hl 4 rfl) ?_
    refine lv_iconst (v := 2) hx hb d_L_law_286 (by decide) ?_
    refine lv_iadd hx hb d_L_law_287 ?_
    refine W.eq (congrArg (fun z => F0 m 288 ls (.int z :: [.ref b, .int (xs (i + 1)), .ref (ad 0)])) (show ((nI i) + 2) = (nI (i + 2)) from nI_add i 2)) ?_
    refine q_sld hx hb hX hbl hbA hS (i + 2) (by omega) (by omega) d_L_law_288 ?_
    refine lv_aload_n hx hb d_L_law_289 rfl (lv_at hl 0 rfl) ?_
    refine lv_iload hx hb d_L_law_290 (lv_at hl 4 rfl) ?_
    refine lv_iconst (v := 3) hx hb d_L_law_292 (by decide) ?_
    refine lv_iadd hx hb d_L_law_293 ?_
    refine W.eq (congrArg (fun z => F0 m 294 ls (.int z :: [.ref b, .int (xs (i + 2)), .int (xs (i + 1)), .ref (ad 0)])) (show ((nI i) + 3) = (nI (i + 3)) from nI_add i 3)) ?_
    refine q_sld hx hb hX hbl hbA hS (i + 3) (by omega) (by omega) d_L_law_294 ?_
    refine lv_aload_n hx hb d_L_law_295 rfl (lv_at hl 3 rfl) ?_
    refine wrSW (As := [.ref (ad 0), .int (xs (i + 1)), .int (xs (i + 2)), .int (xs (i + 3)), .ref oa]) (rest := []) ⟨hx, hb, hml, hown, htb⟩ (hML oa ko fo) (cwSW 5 htb mw_418 mw_419 mw_26 mw_420 hRL.1 hRL.2.1 (by decide +kernel) ⟨hRL.2.2.1, hRL.2.2.2⟩) (va_P_r hP) (va_P_l hP) hD rfl (hKO.app hKA) hS hA rfl hl.1 rfl (lv_room (Nat.le_of_ble_eq_true rfl)) d_L_law_296 ⟨hcc, hss⟩ (fun H locs hP1 hPk hD hS => ?_)
    refine lv_istore (lv' := [(5, .int 0), (0, .ref b), (1, .ref (ad 0)), (2, .ref (an 0)), (3, .ref oa), (4, .int (nI i))]) hx hb d_L_law_299 hl (by decide) rfl (fun ls hl => ?_)
    refine lv_aload_n hx hb d_L_law_301 rfl (lv_at hl 3 rfl) ?_
    refine lv_aload_n hx hb d_L_law_302 rfl (lv_at hl 1 rfl) ?_
    refine lv_iload hx hb d_L_law_303 (lv_at hl 5 rfl) ?_
    refine lv_iconst (v := 1) hx hb d_L_law_305 (by decide) ?_
    refine lv_iadd hx hb d_L_law_306 ?_
    refine W.eq (congrArg (fun z => F0 m 307 ls (.int z :: [.ref b, .ref (an 0)])) (show ((nI i) + 1) = (nI (i + 1)) from nI_add i 1)) ?_
    refine q_sld hx hb hX hbl hbA hS (i + 1) (by omega) (by omega) d_L_law_307 ?_
    refine lv_aload_n hx hb d_L_law_308 rfl (lv_at hl 1 rfl) ?_
    refine lv_iload hx hb d_L_law_309 (lv_at hl 5 rfl) ?_
    refine lv_iconst (v := 2) hx hb d_L_law_311 (by decide) ?_
    refine lv_iadd hx hb d_L_law_312 ?_
    refine W.eq (congrArg (fun z => F0 m 313 ls (.int z :: [.ref b, .int (xs (i + 1)), .ref (an 0)])) (show ((nI i) + 2) = (nI (i + 2)) from nI_add i 2)) ?_
    refine q_sld hx hb hX hbl hbA hS (i + 2) (by omega) (by omega) d_L_law_313 ?_
    refine lv_aload_n hx hb d_L_law_314 rfl (lv_at hl 1 rfl) ?_
    refine lv_iload hx hb d_L_law_315 (lv_at hl 5 rfl) ?_
    refine lv_iconst (v := 3) hx hb d_L_law_317 (by decide) ?_
    refine lv_iadd hx hb d_L_law_318 ?_
    refine W.eq (congrArg (fun z => F0 m 319 ls (.int z :: [.ref b, .int (xs (i + 2)), .int (xs (i + 1)), .ref (an 0)])) (show ((nI i) + 3) = (nI (i + 3)) from nI_add i 3)) ?_
    refine q_sld hx hb hX hbl hbA hS (i + 3) (by omega) (by omega) d_L_law_319 ?_
    refine wrVF (As := [.int (xs (i + 1)), .int (xs (i + 2)), .int (xs (i + 3))]) (rest := []) (b := an 0) ⟨hx, hb, hml, hown, htb⟩ hMK (cwV (C := R_K) 3 htb (gV tb_good mw_705 mw_706 mw_707 mw_31 mw_708) rfl hRK.1 hRK.2.1 (by decide +kernel) ⟨hRK.2.2.1, hRK.2.2.2⟩) hPk hP1 (D_swap hD) rfl hKK hS hA (va_recv hKK hPk (ci := 4) (q0 := 0) rfl rfl) rfl hl.1 rfl (lv_room (Nat.le_of_ble_eq_true rfl)) d_L_law_320 ⟨hcc, hss⟩ (fun H locs hPk hP1 hD hS => ?_)
    have hD := D_swap hD
    refine lv_istore (lv' := [(6, .int r), (5, .int 0), (0, .ref b), (1, .ref (ad 0)), (2, .ref (an 0)), (3, .ref oa), (4, .int (nI i))]) hx hb d_L_law_323 hl (by decide) rfl (fun ls hl => ?_)
    refine lv_aload_n hx hb d_L_law_325 rfl (lv_at hl 4 rfl) ?_
    refine rdV (As := []) (rest := []) (b := an 0) ⟨hx, hb, hml, hown, htb⟩ (c_K_thrown l D an kn h' o' u') (cwV (C := R_K) 0 htb (gV tb_good mw_664 mw_665 mw_666 mw_31 mw_667) rfl rfl rfl (by decide +kernel) ⟨Nat.le_of_ble_eq_true rfl, Nat.le_of_ble_eq_true rfl⟩) hPk hKK (va_recv hKK hPk (ci := 4) (q0 := 0) rfl rfl) rfl hl.1 rfl (lv_room (Nat.le_of_ble_eq_true rfl)) d_L_law_326 ⟨hcc, hss⟩ ?_
    refine W.eq (congrArg (fun z => F0 m 329 ls (.int z :: [])) (show (u' 0) = 0 from hu0)) ?_
    refine lv_iload hx hb d_L_law_329 (lv_at hl 1 rfl) ?_
    refine lv_icmp_eq (tgt := 336) hx hb d_L_law_331 (by decide) (fun c1 => ?_) (fun c1 => ?_)
    · refine lv_iload hx hb d_L_law_336 (lv_at hl 1 rfl) ?_
      refine lv_if_ne (tgt := 353) hx hb d_L_law_338 (by decide) (fun c2 => ?_) (fun c2 => ?_)
      · exact absurd c2 (by decide)
      · refine lv_aload_n hx hb d_L_law_341 rfl (lv_at hl 5 rfl) ?_
        refine lv_iconst (v := 0) hx hb d_L_law_342 (by decide) ?_
        refine q_lald hx hb hKO (va_P_l hP1) 0 0 rfl rfl 0 (by decide) (by decide) d_L_law_343 ?_
        refine W.eq (congrArg (fun z => F0 m 344 ls (.long z :: [])) (show (vp_updL fo 0 r.toInt64 0) = r.toInt64 from rfl)) ?_
        refine lv_iload hx hb d_L_law_344 (lv_at hl 0 rfl) ?_
        refine lv_i2l (v := (r).toInt64) hx hb d_L_law_346 rfl ?_
        refine W.lcmp hx hb d_L_law_347 ?_
        refine W.eq (congrArg (fun z => F0 m 348 ls (.int z :: [])) (show (lg_cmp r.toInt64 ((r).toInt64)) = 0 from lgc _)) ?_
        refine lv_if_eq (tgt := 353) hx hb d_L_law_348 (by decide) (fun c3 => ?_) (fun c3 => ?_)
        · refine lv_goto (tgt := 1066) hx hb d_L_law_353 (by decide) ?_
          exact kk g' z' v' h' o' u' (vp_updL fo 0 r.toInt64) _ _ _ _ _ hREL (hPk.app hP1) hD hS (by omega) (by omega) (lv_sub hl [2, 3, 4, 5, 6] rfl)
        · exact absurd c3 (by decide)
    · exact absurd c1 (by decide)
  · refine lv_aload_n hx hb d_L_law_276 rfl (lv_at hl 1 rfl) ?_
    refine lv_aload_n hx hb d_L_law_277 rfl (lv_at hl 0 rfl) ?_
    refine lv_iload hx hb d_L_law_278 (lv_at hl 4 rfl) ?_
    refine lv_iconst (v := 1) hx hb d_L_law_280 (by decide) ?_
    refine lv_iadd hx hb d_L_law_281 ?_
    refine W.eq (congrArg (fun z => F0 m 282 ls (.int z :: [.ref b, .ref (ad 0)])) (show ((nI i) + 1) = (nI (i + 1)) from nI_add i 1)) ?_
    refine q_sld hx hb hX hbl hbA hS (i + 1) (by omega) (by omega) d_L_law_282 ?_
    refine lv_aload_n hx hb d_L_law_283 rfl (lv_at hl 0 rfl) ?_
    refine lv_iload hx hb d_L_law_284 (lv_at hl 4 rfl) ?_
    refine lv_iconst (v := 2) hx hb d_L_law_286 (by decide) ?_
    refine lv_iadd hx hb d_L_law_287 ?_
    refine W.eq (congrArg (fun z => F0 m 288 ls (.int z :: [.ref b, .int (xs (i + 1)), .ref (ad 0)])) (show ((nI i) + 2) = (nI (i + 2)) from nI_add i 2)) ?_
    refine q_sld hx hb hX hbl hbA hS (i + 2) (by omega) (by omega) d_L_law_288 ?_
    refine lv_aload_n hx hb d_L_law_289 rfl (lv_at hl 0 rfl) ?_
    refine lv_iload hx hb d_L_law_290 (lv_at hl 4 rfl) ?_
    refine lv_iconst (v := 3) hx hb d_L_law_292 (by decide) ?_
    refine lv_iadd hx hb d_L_law_293 ?_
    refine W.eq (congrArg (fun z => F0 m 294 ls (.int z :: [.ref b, .int (xs (i + 2)), .int (xs (i + 1)), .ref (ad 0)])) (show ((nI i) + 3) = (nI (i + 3)) from nI_add i 3)) ?_
    refine q_sld hx hb hX hbl hbA hS (i + 3) (by omega) (by omega) d_L_law_294 ?_
    refine lv_aload_n hx hb d_L_law_295 rfl (lv_at hl 3 rfl) ?_
    refine wtSW (As := [.ref (ad 0), .int (xs (i + 1)), .int (xs (i + 2)), .int (xs (i + 3)), .ref oa]) (rest := []) ⟨hx, hb, hml, hown, htb⟩ (hML oa) (cwSW 5 htb mw_418 mw_419 mw_26 mw_420 hRL.1 hRL.2.1 (by decide +kernel) ⟨hRL.2.2.1, hRL.2.2.2⟩) (va_P_r (va_P_r hP)) hKA (F.xg hS) hS hA rfl hl.1 rfl (lv_room (Nat.le_of_ble_eq_true rfl)) d_L_law_296 ⟨hcc1, hss6⟩ (fun H locs hz hk hS => ?_)
    have hP := hP.kept (fun k q hq => hk q.1 (hP k q hq).lt)
    have hP1 := va_P_r hP
    have hPk := va_P_l hP
    refine lv_istore (lv' := [(5, .int k), (0, .ref b), (1, .ref (ad 0)), (2, .ref (an 0)), (3, .ref oa), (4, .int (nI i))]) hx hb d_L_law_299 hl (by decide) rfl (fun ls hl => ?_)
    refine lv_aload_n hx hb d_L_law_301 rfl (lv_at hl 3 rfl) ?_
    refine lv_aload_n hx hb d_L_law_302 rfl (lv_at hl 1 rfl) ?_
    refine lv_iload hx hb d_L_law_303 (lv_at hl 5 rfl) ?_
    refine lv_iconst (v := 1) hx hb d_L_law_305 (by decide) ?_
    refine lv_iadd hx hb d_L_law_306 ?_
    refine W.eq (congrArg (fun z => F0 m 307 ls (.int z :: [.ref b, .ref (an 0)])) (show ((nI i) + 1) = (nI (i + 1)) from nI_add i 1)) ?_
    refine q_sld hx hb hX hbl hbA hS (i + 1) (by omega) (by omega) d_L_law_307 ?_
    refine lv_aload_n hx hb d_L_law_308 rfl (lv_at hl 1 rfl) ?_
    refine lv_iload hx hb d_L_law_309 (lv_at hl 5 rfl) ?_
    refine lv_iconst (v := 2) hx hb d_L_law_311 (by decide) ?_
    refine lv_iadd hx hb d_L_law_312 ?_
    refine W.eq (congrArg (fun z => F0 m 313 ls (.int z :: [.ref b, .int (xs (i + 1)), .ref (an 0)])) (show ((nI i) + 2) = (nI (i + 2)) from nI_add i 2)) ?_
    refine q_sld hx hb hX hbl hbA hS (i + 2) (by omega) (by omega) d_L_law_313 ?_
    refine lv_aload_n hx hb d_L_law_314 rfl (lv_at hl 1 rfl) ?_
    refine lv_iload hx hb d_L_law_315 (lv_at hl 5 rfl) ?_
    refine lv_iconst (v := 3) hx hb d_L_law_317 (by decide) ?_
    refine lv_iadd hx hb d_L_law_318 ?_
    refine W.eq (congrArg (fun z => F0 m 319 ls (.int z :: [.ref b, .int (xs (i + 2)), .int (xs (i + 1)), .ref (an 0)])) (show ((nI i) + 3) = (nI (i + 3)) from nI_add i 3)) ?_
    refine q_sld hx hb hX hbl hbA hS (i + 3) (by omega) (by omega) d_L_law_319 ?_
    refine wrVF (As := [.int (xs (i + 1)), .int (xs (i + 2)), .int (xs (i + 3))]) (rest := []) (b := an 0) ⟨hx, hb, hml, hown, htb⟩ hMK (cwV (C := R_K) 3 htb (gV tb_good mw_705 mw_706 mw_707 mw_31 mw_708) rfl hRK.1 hRK.2.1 (by decide +kernel) ⟨hRK.2.2.1, hRK.2.2.2⟩) hPk hP1 (D_swap hD) rfl hKK hS hA (va_recv hKK hPk (ci := 4) (q0 := 0) rfl rfl) rfl hl.1 rfl (lv_room (Nat.le_of_ble_eq_true rfl)) d_L_law_320 ⟨hcc1, hss6⟩ (fun H locs hPk hP1 hD hS => ?_)
    have hD := D_swap hD
    refine lv_istore (lv' := [(6, .int r), (5, .int k), (0, .ref b), (1, .ref (ad 0)), (2, .ref (an 0)), (3, .ref oa), (4, .int (nI i))]) hx hb d_L_law_323 hl (by decide) rfl (fun ls hl => ?_)
    refine lv_aload_n hx hb d_L_law_325 rfl (lv_at hl 4 rfl) ?_
    refine rdV (As := []) (rest := []) (b := an 0) ⟨hx, hb, hml, hown, htb⟩ (c_K_thrown l D an kn h o (upd u 0 k)) (cwV (C := R_K) 0 htb (gV tb_good mw_664 mw_665 mw_666 mw_31 mw_667) rfl rfl rfl (by decide +kernel) ⟨Nat.le_of_ble_eq_true rfl, Nat.le_of_ble_eq_true rfl⟩) hPk hKK (va_recv hKK hPk (ci := 4) (q0 := 0) rfl rfl) rfl hl.1 rfl (lv_room (Nat.le_of_ble_eq_true rfl)) d_L_law_326 ⟨hcc1, hss6⟩ ?_
    refine W.eq (congrArg (fun z => F0 m 329 ls (.int z :: [])) (show (upd u 0 k 0) = k from rfl)) ?_
    refine lv_iload hx hb d_L_law_329 (lv_at hl 1 rfl) ?_
    refine lv_icmp_eq (tgt := 336) hx hb d_L_law_331 (by decide) (fun c1 => ?_) (fun c1 => ?_)
    · refine lv_iload hx hb d_L_law_336 (lv_at hl 1 rfl) ?_
      refine lv_if_ne (tgt := 353) hx hb d_L_law_338 (by decide) (fun c2 => ?_) (fun c2 => ?_)
      · refine lv_goto (tgt := 1066) hx hb d_L_law_353 (by decide) ?_
        exact kk g z v h o (upd u 0 k) fo _ _ _ _ _ hREL (hPk.app hP1) hD hS (by omega) (by omega) (lv_sub hl [2, 3, 4, 5, 6] rfl)
      · exact absurd c2 hk0
    · exact absurd rfl c1
set_option maxHeartbeats 4000000 in
set_option maxRecDepth 100000 in
theorem law_on {REL : RelT} {p : Program} {l : Launch} {e : Env} {s : State} {m : MethodId} {args : Array Value} {below : List Frame} {meth : Method} {c : Code} {Q : State → Prop} {D : va_G} {ad an : Nat → Nat} {kd kn : Nat → ClassId} {oa : Nat} {ko : ClassId} {b L i C S : Nat} {xs : Nat → Int32} {g : Nat → Nat → Int32} {z : Nat → Int64} {v : Nat → Int32} {h : Nat → Nat → Int32} {o : Nat → Bool} {u : Nat → Int32} {fo : Nat → Int64} {H : Heap} {locs : List Loc} {cells slots : Nat} {ls : Array Slot}
    (F : LF p l s m args c D kd kn ko b L xs) (hi : i + 4 ≤ L) (hR : BOTH REL l D ad an kd kn g z v h o u y_M_on b_M_on 3 y_K_on b_K_on 3 .boolean [.int (xs (i + 1)), .int (xs (i + 2))])
    (hP : va_P D classes (wLaw ad an kd kn oa ko g z v h o u fo) H) (hD : va_D (LA s) (wLaw ad an kd kn oa ko g z v h o u fo)) (hS : va_S (LA s) s.heap H locs) (hc : cells + 1 ≤ C) (hs : slots + 6 ≤ S) (hC : C ≤ 1081) (hSS : S ≤ 14679)
    (kk : GO REL p l e s m args below meth c Q D ad an kd kn oa ko b i C S) (hl : lv_has ls 7 [(0, .ref b), (1, .ref (ad 0)), (2, .ref (an 0)), (3, .ref oa), (4, .int (nI i))]) :
    W p l e room_1 s m args below meth c H locs cells slots Q (F0 m 356 ls []) := by
  obtain ⟨hx, hb, hml, hown, htb, hX, hbl, hKA, hKK, hKO, -, hL⟩ := id F
  have hbA : ¬ LA s b := Nat.not_le.mpr hbl
  have hA : ∀ q : Nat, s.heap.size ≤ q → LA s q := fun _ h => h
  have hcc : cells ≤ room_1.cells := by show cells ≤ 1081; omega
  have hss : slots ≤ room_1.slots := by show slots ≤ 14679; omega
  have hcc1 : cells + 1 ≤ room_1.cells := by show cells + 1 ≤ 1081; omega
  have hss6 : slots + 6 ≤ room_1.slots := by show slots + 6 ≤ 14679; omega
  unfold wLaw at hP hD
  obtain ⟨r, g', z', v', h', o', u', rM, rK, hRM, hRK, hMM, hMK, hREL⟩ := hR
  · refine lv_aload_n hx hb d_L_law_356 rfl (lv_at hl 1 rfl) ?_
    refine lv_aload_n hx hb d_L_law_357 rfl (lv_at hl 0 rfl) ?_
    refine lv_iload hx hb d_L_law_358 (lv_at hl 4 rfl) ?_
    refine lv_iconst (v := 1) hx hb d_L_law_360 (by decide) ?_
    refine lv_iadd hx hb d_L_law_361 ?_
    refine W.eq (congrArg (fun z => F0 m 362 ls (.int z :: [.ref b, .ref (ad 0)])) (show ((nI i) + 1) = (nI (i + 1)) from nI_add i 1)) ?_
    refine q_sld hx hb hX hbl hbA hS (i + 1) (by omega) (by omega) d_L_law_362 ?_
    refine lv_aload_n hx hb d_L_law_363 rfl (lv_at hl 0 rfl) ?_
    refine lv_iload hx hb d_L_law_364 (lv_at hl 4 rfl) ?_
    refine lv_iconst (v := 2) hx hb d_L_law_366 (by decide) ?_
    refine lv_iadd hx hb d_L_law_367 ?_
    refine W.eq (congrArg (fun z => F0 m 368 ls (.int z :: [.ref b, .int (xs (i + 1)), .ref (ad 0)])) (show ((nI i) + 2) = (nI (i + 2)) from nI_add i 2)) ?_
    refine q_sld hx hb hX hbl hbA hS (i + 2) (by omega) (by omega) d_L_law_368 ?_
    have hP9 : va_P D classes ((wK an kn h o u ++ wO oa ko fo) ++ wA ad kd g z v) H := by rw [List.append_assoc]; exact hP
    have hD9 : va_D (LA s) ((wK an kn h o u ++ wO oa ko fo) ++ wA ad kd g z v) := by rw [List.append_assoc]; exact hD
    refine wrVF (As := [.int (xs (i + 1)), .int (xs (i + 2))]) (rest := []) (b := ad 0) ⟨hx, hb, hml, hown, htb⟩ hMM (cwV (C := R_M) 2 htb (gV tb_good mw_177 mw_178 mw_179 mw_27 mw_180) rfl hRM.1 hRM.2.1 (by decide +kernel) ⟨hRM.2.2.1, hRM.2.2.2⟩) (va_P_r hP9) (va_P_l hP9) hD9 (w' := wA ad kd g' z' v') rfl hKA hS hA (va_recv hKA (va_P_r hP9) (ci := 0) (q0 := 0) rfl rfl) rfl hl.1 rfl (lv_room (Nat.le_of_ble_eq_true rfl)) d_L_law_369 ⟨hcc, hss⟩ (fun H locs hPa hPr hD hS => ?_)
    rw [List.append_assoc] at hD
    have hPk := va_P_l hPr
    have hP1 := (va_P_r hPr).app hPa
    refine lv_aload_n hx hb d_L_law_372 rfl (lv_at hl 2 rfl) ?_
    refine lv_aload_n hx hb d_L_law_373 rfl (lv_at hl 0 rfl) ?_
    refine lv_iload hx hb d_L_law_374 (lv_at hl 4 rfl) ?_
    refine lv_iconst (v := 1) hx hb d_L_law_376 (by decide) ?_
    refine lv_iadd hx hb d_L_law_377 ?_
    refine W.eq (congrArg (fun z => F0 m 378 ls (.int z :: [.ref b, .ref (an 0), .int r])) (show ((nI i) + 1) = (nI (i + 1)) from nI_add i 1)) ?_
    refine q_sld hx hb hX hbl hbA hS (i + 1) (by omega) (by omega) d_L_law_378 ?_
    refine lv_aload_n hx hb d_L_law_379 rfl (lv_at hl 0 rfl) ?_
    refine lv_iload hx hb d_L_law_380 (lv_at hl 4 rfl) ?_
    refine lv_iconst (v := 2) hx hb d_L_law_382 (by decide) ?_
    refine lv_iadd hx hb d_L_law_383 ?_
    refine W.eq (congrArg (fun z => F0 m 384 ls (.int z :: [.ref b, .int (xs (i + 1)), .ref (an 0), .int r])) (show ((nI i) + 2) = (nI (i + 2)) from nI_add i 2)) ?_
    refine q_sld hx hb hX hbl hbA hS (i + 2) (by omega) (by omega) d_L_law_384 ?_
    refine wrVF (As := [.int (xs (i + 1)), .int (xs (i + 2))]) (rest := [.int r]) (b := an 0) ⟨hx, hb, hml, hown, htb⟩ hMK (cwV (C := R_K) 2 htb (gV tb_good mw_709 mw_710 mw_711 mw_31 mw_712) rfl hRK.1 hRK.2.1 (by decide +kernel) ⟨hRK.2.2.1, hRK.2.2.2⟩) hPk hP1 (D_swap hD) rfl hKK hS hA (va_recv hKK hPk (ci := 4) (q0 := 0) rfl rfl) rfl hl.1 rfl (lv_room (Nat.le_of_ble_eq_true rfl)) d_L_law_385 ⟨hcc, hss⟩ (fun H locs hPk hP1 hD hS => ?_)
    have hD := D_swap hD
    refine lv_icmp_eq (tgt := 1066) hx hb d_L_law_388 (by decide) (fun c1 => ?_) (fun c1 => ?_)
    · exact kk g' z' v' h' o' u' fo _ _ _ _ _ hREL (hPk.app hP1) hD hS (by omega) (by omega) (lv_sub hl [0, 1, 2, 3, 4] rfl)
    · exact absurd rfl c1
set_option maxHeartbeats 4000000 in
set_option maxRecDepth 100000 in
theorem law_land {REL : RelT} {p : Program} {l : Launch} {e : Env} {s : State} {m : MethodId} {args : Array Value} {below : List Frame} {meth : Method} {c : Code} {Q : State → Prop} {D : va_G} {ad an : Nat → Nat} {kd kn : Nat → ClassId} {oa : Nat} {ko : ClassId} {b L i C S : Nat} {xs : Nat → Int32} {g : Nat → Nat → Int32} {z : Nat → Int64} {v : Nat → Int32} {h : Nat → Nat → Int32} {o : Nat → Bool} {u : Nat → Int32} {fo : Nat → Int64} {H : Heap} {locs : List Loc} {cells slots : Nat} {ls : Array Slot}
    (F : LF p l s m args c D kd kn ko b L xs) (hi : i + 4 ≤ L) (hR : BOTH REL l D ad an kd kn g z v h o u y_M_land b_M_land 3 y_K_land b_K_land 3 .boolean [.int (xs (i + 1)), .int (xs (i + 2))])
    (hP : va_P D classes (wLaw ad an kd kn oa ko g z v h o u fo) H) (hD : va_D (LA s) (wLaw ad an kd kn oa ko g z v h o u fo)) (hS : va_S (LA s) s.heap H locs) (hc : cells + 1 ≤ C) (hs : slots + 6 ≤ S) (hC : C ≤ 1081) (hSS : S ≤ 14679)
    (kk : GO REL p l e s m args below meth c Q D ad an kd kn oa ko b i C S) (hl : lv_has ls 7 [(0, .ref b), (1, .ref (ad 0)), (2, .ref (an 0)), (3, .ref oa), (4, .int (nI i))]) :
    W p l e room_1 s m args below meth c H locs cells slots Q (F0 m 393 ls []) := by
  obtain ⟨hx, hb, hml, hown, htb, hX, hbl, hKA, hKK, hKO, -, hL⟩ := id F
  have hbA : ¬ LA s b := Nat.not_le.mpr hbl
  have hA : ∀ q : Nat, s.heap.size ≤ q → LA s q := fun _ h => h
  have hcc : cells ≤ room_1.cells := by show cells ≤ 1081; omega
  have hss : slots ≤ room_1.slots := by show slots ≤ 14679; omega
  have hcc1 : cells + 1 ≤ room_1.cells := by show cells + 1 ≤ 1081; omega
  have hss6 : slots + 6 ≤ room_1.slots := by show slots + 6 ≤ 14679; omega
  unfold wLaw at hP hD
  obtain ⟨r, g', z', v', h', o', u', rM, rK, hRM, hRK, hMM, hMK, hREL⟩ := hR
  · refine lv_aload_n hx hb d_L_law_393 rfl (lv_at hl 1 rfl) ?_
    refine lv_aload_n hx hb d_L_law_394 rfl (lv_at hl 0 rfl) ?_
    refine lv_iload hx hb d_L_law_395 (lv_at hl 4 rfl) ?_
    refine lv_iconst (v := 1) hx hb d_L_law_397 (by decide) ?_
    refine lv_iadd hx hb d_L_law_398 ?_
    refine W.eq (congrArg (fun z => F0 m 399 ls (.int z :: [.ref b, .ref (ad 0)])) (show ((nI i) + 1) = (nI (i + 1)) from nI_add i 1)) ?_
    refine q_sld hx hb hX hbl hbA hS (i + 1) (by omega) (by omega) d_L_law_399 ?_
    refine lv_aload_n hx hb d_L_law_400 rfl (lv_at hl 0 rfl) ?_
    refine lv_iload hx hb d_L_law_401 (lv_at hl 4 rfl) ?_
    refine lv_iconst (v := 2) hx hb d_L_law_403 (by decide) ?_
    refine lv_iadd hx hb d_L_law_404 ?_
    refine W.eq (congrArg (fun z => F0 m 405 ls (.int z :: [.ref b, .int (xs (i + 1)), .ref (ad 0)])) (show ((nI i) + 2) = (nI (i + 2)) from nI_add i 2)) ?_
    refine q_sld hx hb hX hbl hbA hS (i + 2) (by omega) (by omega) d_L_law_405 ?_
    have hP9 : va_P D classes ((wK an kn h o u ++ wO oa ko fo) ++ wA ad kd g z v) H := by rw [List.append_assoc]; exact hP
    have hD9 : va_D (LA s) ((wK an kn h o u ++ wO oa ko fo) ++ wA ad kd g z v) := by rw [List.append_assoc]; exact hD
    refine wrVF (As := [.int (xs (i + 1)), .int (xs (i + 2))]) (rest := []) (b := ad 0) ⟨hx, hb, hml, hown, htb⟩ hMM (cwV (C := R_M) 2 htb (gV tb_good mw_211 mw_212 mw_213 mw_27 mw_214) rfl hRM.1 hRM.2.1 (by decide +kernel) ⟨hRM.2.2.1, hRM.2.2.2⟩) (va_P_r hP9) (va_P_l hP9) hD9 (w' := wA ad kd g' z' v') rfl hKA hS hA (va_recv hKA (va_P_r hP9) (ci := 0) (q0 := 0) rfl rfl) rfl hl.1 rfl (lv_room (Nat.le_of_ble_eq_true rfl)) d_L_law_406 ⟨hcc, hss⟩ (fun H locs hPa hPr hD hS => ?_)
    rw [List.append_assoc] at hD
    have hPk := va_P_l hPr
    have hP1 := (va_P_r hPr).app hPa
    refine lv_aload_n hx hb d_L_law_409 rfl (lv_at hl 2 rfl) ?_
    refine lv_aload_n hx hb d_L_law_410 rfl (lv_at hl 0 rfl) ?_
    refine lv_iload hx hb d_L_law_411 (lv_at hl 4 rfl) ?_
    refine lv_iconst (v := 1) hx hb d_L_law_413 (by decide) ?_
    refine lv_iadd hx hb d_L_law_414 ?_
    refine W.eq (congrArg (fun z => F0 m 415 ls (.int z :: [.ref b, .ref (an 0), .int r])) (show ((nI i) + 1) = (nI (i + 1)) from nI_add i 1)) ?_
    refine q_sld hx hb hX hbl hbA hS (i + 1) (by omega) (by omega) d_L_law_415 ?_
    refine lv_aload_n hx hb d_L_law_416 rfl (lv_at hl 0 rfl) ?_
    refine lv_iload hx hb d_L_law_417 (lv_at hl 4 rfl) ?_
    refine lv_iconst (v := 2) hx hb d_L_law_419 (by decide) ?_
    refine lv_iadd hx hb d_L_law_420 ?_
    refine W.eq (congrArg (fun z => F0 m 421 ls (.int z :: [.ref b, .int (xs (i + 1)), .ref (an 0), .int r])) (show ((nI i) + 2) = (nI (i + 2)) from nI_add i 2)) ?_
    refine q_sld hx hb hX hbl hbA hS (i + 2) (by omega) (by omega) d_L_law_421 ?_
    refine wrVF (As := [.int (xs (i + 1)), .int (xs (i + 2))]) (rest := [.int r]) (b := an 0) ⟨hx, hb, hml, hown, htb⟩ hMK (cwV (C := R_K) 2 htb (gV tb_good mw_725 mw_726 mw_727 mw_31 mw_728) rfl hRK.1 hRK.2.1 (by decide +kernel) ⟨hRK.2.2.1, hRK.2.2.2⟩) hPk hP1 (D_swap hD) rfl hKK hS hA (va_recv hKK hPk (ci := 4) (q0 := 0) rfl rfl) rfl hl.1 rfl (lv_room (Nat.le_of_ble_eq_true rfl)) d_L_law_422 ⟨hcc, hss⟩ (fun H locs hPk hP1 hD hS => ?_)
    have hD := D_swap hD
    refine lv_icmp_eq (tgt := 1066) hx hb d_L_law_425 (by decide) (fun c1 => ?_) (fun c1 => ?_)
    · exact kk g' z' v' h' o' u' fo _ _ _ _ _ hREL (hPk.app hP1) hD hS (by omega) (by omega) (lv_sub hl [0, 1, 2, 3, 4] rfl)
    · exact absurd rfl c1
set_option maxHeartbeats 4000000 in
set_option maxRecDepth 100000 in
theorem law_arrive {REL : RelT} {p : Program} {l : Launch} {e : Env} {s : State} {m : MethodId} {args : Array Value} {below : List Frame} {meth : Method} {c : Code} {Q : State → Prop} {D : va_G} {ad an : Nat → Nat} {kd kn : Nat → ClassId} {oa : Nat} {ko : ClassId} {b L i C S : Nat} {xs : Nat → Int32} {g : Nat → Nat → Int32} {z : Nat → Int64} {v : Nat → Int32} {h : Nat → Nat → Int32} {o : Nat → Bool} {u : Nat → Int32} {fo : Nat → Int64} {H : Heap} {locs : List Loc} {cells slots : Nat} {ls : Array Slot}
    (F : LF p l s m args c D kd kn ko b L xs) (hi : i + 4 ≤ L) (hR : BOTH REL l D ad an kd kn g z v h o u y_M_arrive b_M_arrive 2 y_K_arrive b_K_arrive 2 .boolean [.int (xs (i + 1))])
    (hP : va_P D classes (wLaw ad an kd kn oa ko g z v h o u fo) H) (hD : va_D (LA s) (wLaw ad an kd kn oa ko g z v h o u fo)) (hS : va_S (LA s) s.heap H locs) (hc : cells + 1 ≤ C) (hs : slots + 6 ≤ S) (hC : C ≤ 1081) (hSS : S ≤ 14679)
    (kk : GO REL p l e s m args below meth c Q D ad an kd kn oa ko b i C S) (hl : lv_has ls 7 [(0, .ref b), (1, .ref (ad 0)), (2, .ref (an 0)), (3, .ref oa), (4, .int (nI i))]) :
    W p l e room_1 s m args below meth c H locs cells slots Q (F0 m 430 ls []) := by
  obtain ⟨hx, hb, hml, hown, htb, hX, hbl, hKA, hKK, hKO, -, hL⟩ := id F
  have hbA : ¬ LA s b := Nat.not_le.mpr hbl
  have hA : ∀ q : Nat, s.heap.size ≤ q → LA s q := fun _ h => h
  have hcc : cells ≤ room_1.cells := by show cells ≤ 1081; omega
  have hss : slots ≤ room_1.slots := by show slots ≤ 14679; omega
  have hcc1 : cells + 1 ≤ room_1.cells := by show cells + 1 ≤ 1081; omega
  have hss6 : slots + 6 ≤ room_1.slots := by show slots + 6 ≤ 14679; omega
  unfold wLaw at hP hD
  obtain ⟨r, g', z', v', h', o', u', rM, rK, hRM, hRK, hMM, hMK, hREL⟩ := hR
  · refine lv_aload_n hx hb d_L_law_430 rfl (lv_at hl 1 rfl) ?_
    refine lv_aload_n hx hb d_L_law_431 rfl (lv_at hl 0 rfl) ?_
    refine lv_iload hx hb d_L_law_432 (lv_at hl 4 rfl) ?_
    refine lv_iconst (v := 1) hx hb d_L_law_434 (by decide) ?_
    refine lv_iadd hx hb d_L_law_435 ?_
    refine W.eq (congrArg (fun z => F0 m 436 ls (.int z :: [.ref b, .ref (ad 0)])) (show ((nI i) + 1) = (nI (i + 1)) from nI_add i 1)) ?_
    refine q_sld hx hb hX hbl hbA hS (i + 1) (by omega) (by omega) d_L_law_436 ?_
    have hP9 : va_P D classes ((wK an kn h o u ++ wO oa ko fo) ++ wA ad kd g z v) H := by rw [List.append_assoc]; exact hP
    have hD9 : va_D (LA s) ((wK an kn h o u ++ wO oa ko fo) ++ wA ad kd g z v) := by rw [List.append_assoc]; exact hD
    refine wrVF (As := [.int (xs (i + 1))]) (rest := []) (b := ad 0) ⟨hx, hb, hml, hown, htb⟩ hMM (cwV (C := R_M) 1 htb (gV tb_good mw_223 mw_224 mw_225 mw_27 mw_226) rfl hRM.1 hRM.2.1 (by decide +kernel) ⟨hRM.2.2.1, hRM.2.2.2⟩) (va_P_r hP9) (va_P_l hP9) hD9 (w' := wA ad kd g' z' v') rfl hKA hS hA (va_recv hKA (va_P_r hP9) (ci := 0) (q0 := 0) rfl rfl) rfl hl.1 rfl (lv_room (Nat.le_of_ble_eq_true rfl)) d_L_law_437 ⟨hcc, hss⟩ (fun H locs hPa hPr hD hS => ?_)
    rw [List.append_assoc] at hD
    have hPk := va_P_l hPr
    have hP1 := (va_P_r hPr).app hPa
    refine lv_aload_n hx hb d_L_law_440 rfl (lv_at hl 2 rfl) ?_
    refine lv_aload_n hx hb d_L_law_441 rfl (lv_at hl 0 rfl) ?_
    refine lv_iload hx hb d_L_law_442 (lv_at hl 4 rfl) ?_
    refine lv_iconst (v := 1) hx hb d_L_law_444 (by decide) ?_
    refine lv_iadd hx hb d_L_law_445 ?_
    refine W.eq (congrArg (fun z => F0 m 446 ls (.int z :: [.ref b, .ref (an 0), .int r])) (show ((nI i) + 1) = (nI (i + 1)) from nI_add i 1)) ?_
    refine q_sld hx hb hX hbl hbA hS (i + 1) (by omega) (by omega) d_L_law_446 ?_
    refine wrVF (As := [.int (xs (i + 1))]) (rest := [.int r]) (b := an 0) ⟨hx, hb, hml, hown, htb⟩ hMK (cwV (C := R_K) 1 htb (gV tb_good mw_729 mw_730 mw_731 mw_31 mw_732) rfl hRK.1 hRK.2.1 (by decide +kernel) ⟨hRK.2.2.1, hRK.2.2.2⟩) hPk hP1 (D_swap hD) rfl hKK hS hA (va_recv hKK hPk (ci := 4) (q0 := 0) rfl rfl) rfl hl.1 rfl (lv_room (Nat.le_of_ble_eq_true rfl)) d_L_law_447 ⟨hcc, hss⟩ (fun H locs hPk hP1 hD hS => ?_)
    have hD := D_swap hD
    refine lv_icmp_eq (tgt := 1066) hx hb d_L_law_450 (by decide) (fun c1 => ?_) (fun c1 => ?_)
    · exact kk g' z' v' h' o' u' fo _ _ _ _ _ hREL (hPk.app hP1) hD hS (by omega) (by omega) (lv_sub hl [0, 1, 2, 3, 4] rfl)
    · exact absurd rfl c1
set_option maxHeartbeats 4000000 in
set_option maxRecDepth 100000 in
theorem law_amend {REL : RelT} {p : Program} {l : Launch} {e : Env} {s : State} {m : MethodId} {args : Array Value} {below : List Frame} {meth : Method} {c : Code} {Q : State → Prop} {D : va_G} {ad an : Nat → Nat} {kd kn : Nat → ClassId} {oa : Nat} {ko : ClassId} {b L i C S : Nat} {xs : Nat → Int32} {g : Nat → Nat → Int32} {z : Nat → Int64} {v : Nat → Int32} {h : Nat → Nat → Int32} {o : Nat → Bool} {u : Nat → Int32} {fo : Nat → Int64} {H : Heap} {locs : List Loc} {cells slots : Nat} {ls : Array Slot}
    (F : LF p l s m args c D kd kn ko b L xs) (hi : i + 4 ≤ L) (hR : RETS REL l D ad an kd kn g z v h o u y_L_amend b_L_amend 6 [(0, 12, 15, 13)] y_K_amend b_K_amend 7 [.int (xs (i + 1)), .int (xs (i + 2)), .int (xs (i + 3))])
    (hP : va_P D classes (wLaw ad an kd kn oa ko g z v h o u fo) H) (hD : va_D (LA s) (wLaw ad an kd kn oa ko g z v h o u fo)) (hS : va_S (LA s) s.heap H locs) (hc : cells + 1 ≤ C) (hs : slots + 6 ≤ S) (hC : C ≤ 1081) (hSS : S ≤ 14679)
    (kk : GO REL p l e s m args below meth c Q D ad an kd kn oa ko b i C S) (hl : lv_has ls 7 [(0, .ref b), (1, .ref (ad 0)), (2, .ref (an 0)), (3, .ref oa), (4, .int (nI i))]) :
    W p l e room_1 s m args below meth c H locs cells slots Q (F0 m 455 ls []) := by
  obtain ⟨hx, hb, hml, hown, htb, hX, hbl, hKA, hKK, hKO, -, hL⟩ := id F
  have hbA : ¬ LA s b := Nat.not_le.mpr hbl
  have hA : ∀ q : Nat, s.heap.size ≤ q → LA s q := fun _ h => h
  have hcc : cells ≤ room_1.cells := by show cells ≤ 1081; omega
  have hss : slots ≤ room_1.slots := by show slots ≤ 14679; omega
  have hcc1 : cells + 1 ≤ room_1.cells := by show cells + 1 ≤ 1081; omega
  have hss6 : slots + 6 ≤ room_1.slots := by show slots + 6 ≤ 14679; omega
  unfold wLaw at hP hD
  rcases hR with ⟨r, g', z', v', h', o', u', rL, rK, hRL, hRK, hML, hMK, hu0, hREL⟩ | ⟨k, r, rL, rK, hRL, hRK, hML, hMK, hk0, hREL⟩
  · refine lv_aload_n hx hb d_L_law_455 rfl (lv_at hl 1 rfl) ?_
    refine lv_aload_n hx hb d_L_law_456 rfl (lv_at hl 0 rfl) ?_
    refine lv_iload hx hb d_L_law_457 (lv_at hl 4 rfl) ?_
    refine lv_iconst (v := 1) hx hb d_L_law_459 (by decide) ?_
    refine lv_iadd hx hb d_L_law_460 ?_
    refine W.eq (congrArg (fun z => F0 m 461 ls (.int z :: [.ref b, .ref (ad 0)])) (show ((nI i) + 1) = (nI (i + 1)) from nI_add i 1)) ?_
    refine q_sld hx hb hX hbl hbA hS (i + 1) (by omega) (by omega) d_L_law_461 ?_
    refine lv_aload_n hx hb d_L_law_462 rfl (lv_at hl 0 rfl) ?_
    refine lv_iload hx hb d_L_law_463 (lv_at hl 4 rfl) ?_
    refine lv_iconst (v := 2) hx hb d_L_law_465 (by decide) ?_
    refine lv_iadd hx hb d_L_law_466 ?_
    refine W.eq (congrArg (fun z => F0 m 467 ls (.int z :: [.ref b, .int (xs (i + 1)), .ref (ad 0)])) (show ((nI i) + 2) = (nI (i + 2)) from nI_add i 2)) ?_
    refine q_sld hx hb hX hbl hbA hS (i + 2) (by omega) (by omega) d_L_law_467 ?_
    refine lv_aload_n hx hb d_L_law_468 rfl (lv_at hl 0 rfl) ?_
    refine lv_iload hx hb d_L_law_469 (lv_at hl 4 rfl) ?_
    refine lv_iconst (v := 3) hx hb d_L_law_471 (by decide) ?_
    refine lv_iadd hx hb d_L_law_472 ?_
    refine W.eq (congrArg (fun z => F0 m 473 ls (.int z :: [.ref b, .int (xs (i + 2)), .int (xs (i + 1)), .ref (ad 0)])) (show ((nI i) + 3) = (nI (i + 3)) from nI_add i 3)) ?_
    refine q_sld hx hb hX hbl hbA hS (i + 3) (by omega) (by omega) d_L_law_473 ?_
    refine lv_aload_n hx hb d_L_law_474 rfl (lv_at hl 3 rfl) ?_
    refine wrSW (As := [.ref (ad 0), .int (xs (i + 1)), .int (xs (i + 2)), .int (xs (i + 3)), .ref oa]) (rest := []) ⟨hx, hb, hml, hown, htb⟩ (hML oa ko fo) (cwSW 5 htb mw_439 mw_440 mw_26 mw_441 hRL.1 hRL.2.1 (by decide +kernel) ⟨hRL.2.2.1, hRL.2.2.2⟩) (va_P_r hP) (va_P_l hP) hD rfl (hKO.app hKA) hS hA rfl hl.1 rfl (lv_room (Nat.le_of_ble_eq_true rfl)) d_L_law_475 ⟨hcc, hss⟩ (fun H locs hP1 hPk hD hS => ?_)
    refine lv_istore (lv' := [(5, .int 0), (0, .ref b), (1, .ref (ad 0)), (2, .ref (an 0)), (3, .ref oa), (4, .int (nI i))]) hx hb d_L_law_478 hl (by decide) rfl (fun ls hl => ?_)
    refine lv_aload_n hx hb d_L_law_480 rfl (lv_at hl 3 rfl) ?_
    refine lv_aload_n hx hb d_L_law_481 rfl (lv_at hl 1 rfl) ?_
    refine lv_iload hx hb d_L_law_482 (lv_at hl 5 rfl) ?_
    refine lv_iconst (v := 1) hx hb d_L_law_484 (by decide) ?_
    refine lv_iadd hx hb d_L_law_485 ?_
    refine W.eq (congrArg (fun z => F0 m 486 ls (.int z :: [.ref b, .ref (an 0)])) (show ((nI i) + 1) = (nI (i + 1)) from nI_add i 1)) ?_
    refine q_sld hx hb hX hbl hbA hS (i + 1) (by omega) (by omega) d_L_law_486 ?_
    refine lv_aload_n hx hb d_L_law_487 rfl (lv_at hl 1 rfl) ?_
    refine lv_iload hx hb d_L_law_488 (lv_at hl 5 rfl) ?_
    refine lv_iconst (v := 2) hx hb d_L_law_490 (by decide) ?_
    refine lv_iadd hx hb d_L_law_491 ?_
    refine W.eq (congrArg (fun z => F0 m 492 ls (.int z :: [.ref b, .int (xs (i + 1)), .ref (an 0)])) (show ((nI i) + 2) = (nI (i + 2)) from nI_add i 2)) ?_
    refine q_sld hx hb hX hbl hbA hS (i + 2) (by omega) (by omega) d_L_law_492 ?_
    refine lv_aload_n hx hb d_L_law_493 rfl (lv_at hl 1 rfl) ?_
    refine lv_iload hx hb d_L_law_494 (lv_at hl 5 rfl) ?_
    refine lv_iconst (v := 3) hx hb d_L_law_496 (by decide) ?_
    refine lv_iadd hx hb d_L_law_497 ?_
    refine W.eq (congrArg (fun z => F0 m 498 ls (.int z :: [.ref b, .int (xs (i + 2)), .int (xs (i + 1)), .ref (an 0)])) (show ((nI i) + 3) = (nI (i + 3)) from nI_add i 3)) ?_
    refine q_sld hx hb hX hbl hbA hS (i + 3) (by omega) (by omega) d_L_law_498 ?_
    refine wrVF (As := [.int (xs (i + 1)), .int (xs (i + 2)), .int (xs (i + 3))]) (rest := []) (b := an 0) ⟨hx, hb, hml, hown, htb⟩ hMK (cwV (C := R_K) 3 htb (gV tb_good mw_733 mw_734 mw_735 mw_31 mw_736) rfl hRK.1 hRK.2.1 (by decide +kernel) ⟨hRK.2.2.1, hRK.2.2.2⟩) hPk hP1 (D_swap hD) rfl hKK hS hA (va_recv hKK hPk (ci := 4) (q0 := 0) rfl rfl) rfl hl.1 rfl (lv_room (Nat.le_of_ble_eq_true rfl)) d_L_law_499 ⟨hcc, hss⟩ (fun H locs hPk hP1 hD hS => ?_)
    have hD := D_swap hD
    refine lv_istore (lv' := [(6, .int r), (5, .int 0), (0, .ref b), (1, .ref (ad 0)), (2, .ref (an 0)), (3, .ref oa), (4, .int (nI i))]) hx hb d_L_law_502 hl (by decide) rfl (fun ls hl => ?_)
    refine lv_aload_n hx hb d_L_law_504 rfl (lv_at hl 4 rfl) ?_
    refine rdV (As := []) (rest := []) (b := an 0) ⟨hx, hb, hml, hown, htb⟩ (c_K_thrown l D an kn h' o' u') (cwV (C := R_K) 0 htb (gV tb_good mw_664 mw_665 mw_666 mw_31 mw_667) rfl rfl rfl (by decide +kernel) ⟨Nat.le_of_ble_eq_true rfl, Nat.le_of_ble_eq_true rfl⟩) hPk hKK (va_recv hKK hPk (ci := 4) (q0 := 0) rfl rfl) rfl hl.1 rfl (lv_room (Nat.le_of_ble_eq_true rfl)) d_L_law_505 ⟨hcc, hss⟩ ?_
    refine W.eq (congrArg (fun z => F0 m 508 ls (.int z :: [])) (show (u' 0) = 0 from hu0)) ?_
    refine lv_iload hx hb d_L_law_508 (lv_at hl 1 rfl) ?_
    refine lv_icmp_eq (tgt := 515) hx hb d_L_law_510 (by decide) (fun c1 => ?_) (fun c1 => ?_)
    · refine lv_iload hx hb d_L_law_515 (lv_at hl 1 rfl) ?_
      refine lv_if_ne (tgt := 532) hx hb d_L_law_517 (by decide) (fun c2 => ?_) (fun c2 => ?_)
      · exact absurd c2 (by decide)
      · refine lv_aload_n hx hb d_L_law_520 rfl (lv_at hl 5 rfl) ?_
        refine lv_iconst (v := 0) hx hb d_L_law_521 (by decide) ?_
        refine q_lald hx hb hKO (va_P_l hP1) 0 0 rfl rfl 0 (by decide) (by decide) d_L_law_522 ?_
        refine W.eq (congrArg (fun z => F0 m 523 ls (.long z :: [])) (show (vp_updL fo 0 r.toInt64 0) = r.toInt64 from rfl)) ?_
        refine lv_iload hx hb d_L_law_523 (lv_at hl 0 rfl) ?_
        refine lv_i2l (v := (r).toInt64) hx hb d_L_law_525 rfl ?_
        refine W.lcmp hx hb d_L_law_526 ?_
        refine W.eq (congrArg (fun z => F0 m 527 ls (.int z :: [])) (show (lg_cmp r.toInt64 ((r).toInt64)) = 0 from lgc _)) ?_
        refine lv_if_eq (tgt := 532) hx hb d_L_law_527 (by decide) (fun c3 => ?_) (fun c3 => ?_)
        · refine lv_goto (tgt := 1066) hx hb d_L_law_532 (by decide) ?_
          exact kk g' z' v' h' o' u' (vp_updL fo 0 r.toInt64) _ _ _ _ _ hREL (hPk.app hP1) hD hS (by omega) (by omega) (lv_sub hl [2, 3, 4, 5, 6] rfl)
        · exact absurd c3 (by decide)
    · exact absurd c1 (by decide)
  · refine lv_aload_n hx hb d_L_law_455 rfl (lv_at hl 1 rfl) ?_
    refine lv_aload_n hx hb d_L_law_456 rfl (lv_at hl 0 rfl) ?_
    refine lv_iload hx hb d_L_law_457 (lv_at hl 4 rfl) ?_
    refine lv_iconst (v := 1) hx hb d_L_law_459 (by decide) ?_
    refine lv_iadd hx hb d_L_law_460 ?_
    refine W.eq (congrArg (fun z => F0 m 461 ls (.int z :: [.ref b, .ref (ad 0)])) (show ((nI i) + 1) = (nI (i + 1)) from nI_add i 1)) ?_
    refine q_sld hx hb hX hbl hbA hS (i + 1) (by omega) (by omega) d_L_law_461 ?_
    refine lv_aload_n hx hb d_L_law_462 rfl (lv_at hl 0 rfl) ?_
    refine lv_iload hx hb d_L_law_463 (lv_at hl 4 rfl) ?_
    refine lv_iconst (v := 2) hx hb d_L_law_465 (by decide) ?_
    refine lv_iadd hx hb d_L_law_466 ?_
    refine W.eq (congrArg (fun z => F0 m 467 ls (.int z :: [.ref b, .int (xs (i + 1)), .ref (ad 0)])) (show ((nI i) + 2) = (nI (i + 2)) from nI_add i 2)) ?_
    refine q_sld hx hb hX hbl hbA hS (i + 2) (by omega) (by omega) d_L_law_467 ?_
    refine lv_aload_n hx hb d_L_law_468 rfl (lv_at hl 0 rfl) ?_
    refine lv_iload hx hb d_L_law_469 (lv_at hl 4 rfl) ?_
    refine lv_iconst (v := 3) hx hb d_L_law_471 (by decide) ?_
    refine lv_iadd hx hb d_L_law_472 ?_
    refine W.eq (congrArg (fun z => F0 m 473 ls (.int z :: [.ref b, .int (xs (i + 2)), .int (xs (i + 1)), .ref (ad 0)])) (show ((nI i) + 3) = (nI (i + 3)) from nI_add i 3)) ?_
    refine q_sld hx hb hX hbl hbA hS (i + 3) (by omega) (by omega) d_L_law_473 ?_
    refine lv_aload_n hx hb d_L_law_474 rfl (lv_at hl 3 rfl) ?_
    refine wtSW (As := [.ref (ad 0), .int (xs (i + 1)), .int (xs (i + 2)), .int (xs (i + 3)), .ref oa]) (rest := []) ⟨hx, hb, hml, hown, htb⟩ (hML oa) (cwSW 5 htb mw_439 mw_440 mw_26 mw_441 hRL.1 hRL.2.1 (by decide +kernel) ⟨hRL.2.2.1, hRL.2.2.2⟩) (va_P_r (va_P_r hP)) hKA (F.xg hS) hS hA rfl hl.1 rfl (lv_room (Nat.le_of_ble_eq_true rfl)) d_L_law_475 ⟨hcc1, hss6⟩ (fun H locs hz hk hS => ?_)
    have hP := hP.kept (fun k q hq => hk q.1 (hP k q hq).lt)
    have hP1 := va_P_r hP
    have hPk := va_P_l hP
    refine lv_istore (lv' := [(5, .int k), (0, .ref b), (1, .ref (ad 0)), (2, .ref (an 0)), (3, .ref oa), (4, .int (nI i))]) hx hb d_L_law_478 hl (by decide) rfl (fun ls hl => ?_)
    refine lv_aload_n hx hb d_L_law_480 rfl (lv_at hl 3 rfl) ?_
    refine lv_aload_n hx hb d_L_law_481 rfl (lv_at hl 1 rfl) ?_
    refine lv_iload hx hb d_L_law_482 (lv_at hl 5 rfl) ?_
    refine lv_iconst (v := 1) hx hb d_L_law_484 (by decide) ?_
    refine lv_iadd hx hb d_L_law_485 ?_
    refine W.eq (congrArg (fun z => F0 m 486 ls (.int z :: [.ref b, .ref (an 0)])) (show ((nI i) + 1) = (nI (i + 1)) from nI_add i 1)) ?_
    refine q_sld hx hb hX hbl hbA hS (i + 1) (by omega) (by omega) d_L_law_486 ?_
    refine lv_aload_n hx hb d_L_law_487 rfl (lv_at hl 1 rfl) ?_
    refine lv_iload hx hb d_L_law_488 (lv_at hl 5 rfl) ?_
    refine lv_iconst (v := 2) hx hb d_L_law_490 (by decide) ?_
    refine lv_iadd hx hb d_L_law_491 ?_
    refine W.eq (congrArg (fun z => F0 m 492 ls (.int z :: [.ref b, .int (xs (i + 1)), .ref (an 0)])) (show ((nI i) + 2) = (nI (i + 2)) from nI_add i 2)) ?_
    refine q_sld hx hb hX hbl hbA hS (i + 2) (by omega) (by omega) d_L_law_492 ?_
    refine lv_aload_n hx hb d_L_law_493 rfl (lv_at hl 1 rfl) ?_
    refine lv_iload hx hb d_L_law_494 (lv_at hl 5 rfl) ?_
    refine lv_iconst (v := 3) hx hb d_L_law_496 (by decide) ?_
    refine lv_iadd hx hb d_L_law_497 ?_
    refine W.eq (congrArg (fun z => F0 m 498 ls (.int z :: [.ref b, .int (xs (i + 2)), .int (xs (i + 1)), .ref (an 0)])) (show ((nI i) + 3) = (nI (i + 3)) from nI_add i 3)) ?_
    refine q_sld hx hb hX hbl hbA hS (i + 3) (by omega) (by omega) d_L_law_498 ?_
    refine wrVF (As := [.int (xs (i + 1)), .int (xs (i + 2)), .int (xs (i + 3))]) (rest := []) (b := an 0) ⟨hx, hb, hml, hown, htb⟩ hMK (cwV (C := R_K) 3 htb (gV tb_good mw_733 mw_734 mw_735 mw_31 mw_736) rfl hRK.1 hRK.2.1 (by decide +kernel) ⟨hRK.2.2.1, hRK.2.2.2⟩) hPk hP1 (D_swap hD) rfl hKK hS hA (va_recv hKK hPk (ci := 4) (q0 := 0) rfl rfl) rfl hl.1 rfl (lv_room (Nat.le_of_ble_eq_true rfl)) d_L_law_499 ⟨hcc1, hss6⟩ (fun H locs hPk hP1 hD hS => ?_)
    have hD := D_swap hD
    refine lv_istore (lv' := [(6, .int r), (5, .int k), (0, .ref b), (1, .ref (ad 0)), (2, .ref (an 0)), (3, .ref oa), (4, .int (nI i))]) hx hb d_L_law_502 hl (by decide) rfl (fun ls hl => ?_)
    refine lv_aload_n hx hb d_L_law_504 rfl (lv_at hl 4 rfl) ?_
    refine rdV (As := []) (rest := []) (b := an 0) ⟨hx, hb, hml, hown, htb⟩ (c_K_thrown l D an kn h o (upd u 0 k)) (cwV (C := R_K) 0 htb (gV tb_good mw_664 mw_665 mw_666 mw_31 mw_667) rfl rfl rfl (by decide +kernel) ⟨Nat.le_of_ble_eq_true rfl, Nat.le_of_ble_eq_true rfl⟩) hPk hKK (va_recv hKK hPk (ci := 4) (q0 := 0) rfl rfl) rfl hl.1 rfl (lv_room (Nat.le_of_ble_eq_true rfl)) d_L_law_505 ⟨hcc1, hss6⟩ ?_
    refine W.eq (congrArg (fun z => F0 m 508 ls (.int z :: [])) (show (upd u 0 k 0) = k from rfl)) ?_
    refine lv_iload hx hb d_L_law_508 (lv_at hl 1 rfl) ?_
    refine lv_icmp_eq (tgt := 515) hx hb d_L_law_510 (by decide) (fun c1 => ?_) (fun c1 => ?_)
    · refine lv_iload hx hb d_L_law_515 (lv_at hl 1 rfl) ?_
      refine lv_if_ne (tgt := 532) hx hb d_L_law_517 (by decide) (fun c2 => ?_) (fun c2 => ?_)
      · refine lv_goto (tgt := 1066) hx hb d_L_law_532 (by decide) ?_
        exact kk g z v h o (upd u 0 k) fo _ _ _ _ _ hREL (hPk.app hP1) hD hS (by omega) (by omega) (lv_sub hl [2, 3, 4, 5, 6] rfl)
      · exact absurd c2 hk0
    · exact absurd rfl c1
set_option maxHeartbeats 4000000 in
set_option maxRecDepth 100000 in
theorem law_title {REL : RelT} {p : Program} {l : Launch} {e : Env} {s : State} {m : MethodId} {args : Array Value} {below : List Frame} {meth : Method} {c : Code} {Q : State → Prop} {D : va_G} {ad an : Nat → Nat} {kd kn : Nat → ClassId} {oa : Nat} {ko : ClassId} {b L i C S : Nat} {xs : Nat → Int32} {g : Nat → Nat → Int32} {z : Nat → Int64} {v : Nat → Int32} {h : Nat → Nat → Int32} {o : Nat → Bool} {u : Nat → Int32} {fo : Nat → Int64} {H : Heap} {locs : List Loc} {cells slots : Nat} {ls : Array Slot}
    (F : LF p l s m args c D kd kn ko b L xs) (hi : i + 4 ≤ L) (hR : RETS REL l D ad an kd kn g z v h o u y_L_title b_L_title 6 [(0, 12, 15, 13)] y_K_title b_K_title 4 [.int (xs (i + 1)), .int (xs (i + 2)), .int (xs (i + 3))])
    (hP : va_P D classes (wLaw ad an kd kn oa ko g z v h o u fo) H) (hD : va_D (LA s) (wLaw ad an kd kn oa ko g z v h o u fo)) (hS : va_S (LA s) s.heap H locs) (hc : cells + 1 ≤ C) (hs : slots + 6 ≤ S) (hC : C ≤ 1081) (hSS : S ≤ 14679)
    (kk : GO REL p l e s m args below meth c Q D ad an kd kn oa ko b i C S) (hl : lv_has ls 7 [(0, .ref b), (1, .ref (ad 0)), (2, .ref (an 0)), (3, .ref oa), (4, .int (nI i))]) :
    W p l e room_1 s m args below meth c H locs cells slots Q (F0 m 535 ls []) := by
  obtain ⟨hx, hb, hml, hown, htb, hX, hbl, hKA, hKK, hKO, -, hL⟩ := id F
  have hbA : ¬ LA s b := Nat.not_le.mpr hbl
  have hA : ∀ q : Nat, s.heap.size ≤ q → LA s q := fun _ h => h
  have hcc : cells ≤ room_1.cells := by show cells ≤ 1081; omega
  have hss : slots ≤ room_1.slots := by show slots ≤ 14679; omega
  have hcc1 : cells + 1 ≤ room_1.cells := by show cells + 1 ≤ 1081; omega
  have hss6 : slots + 6 ≤ room_1.slots := by show slots + 6 ≤ 14679; omega
  unfold wLaw at hP hD
  rcases hR with ⟨r, g', z', v', h', o', u', rL, rK, hRL, hRK, hML, hMK, hu0, hREL⟩ | ⟨k, r, rL, rK, hRL, hRK, hML, hMK, hk0, hREL⟩
  · refine lv_aload_n hx hb d_L_law_535 rfl (lv_at hl 1 rfl) ?_
    refine lv_aload_n hx hb d_L_law_536 rfl (lv_at hl 0 rfl) ?_
    refine lv_iload hx hb d_L_law_537 (lv_at hl 4 rfl) ?_
    refine lv_iconst (v := 1) hx hb d_L_law_539 (by decide) ?_
    refine lv_iadd hx hb d_L_law_540 ?_
    refine W.eq (congrArg (fun z => F0 m 541 ls (.int z :: [.ref b, .ref (ad 0)])) (show ((nI i) + 1) = (nI (i + 1)) from nI_add i 1)) ?_
    refine q_sld hx hb hX hbl hbA hS (i + 1) (by omega) (by omega) d_L_law_541 ?_
    refine lv_aload_n hx hb d_L_law_542 rfl (lv_at hl 0 rfl) ?_
    refine lv_iload hx hb d_L_law_543 (lv_at hl 4 rfl) ?_
    refine lv_iconst (v := 2) hx hb d_L_law_545 (by decide) ?_
    refine lv_iadd hx hb d_L_law_546 ?_
    refine W.eq (congrArg (fun z => F0 m 547 ls (.int z :: [.ref b, .int (xs (i + 1)), .ref (ad 0)])) (show ((nI i) + 2) = (nI (i + 2)) from nI_add i 2)) ?_
    refine q_sld hx hb hX hbl hbA hS (i + 2) (by omega) (by omega) d_L_law_547 ?_
    refine lv_aload_n hx hb d_L_law_548 rfl (lv_at hl 0 rfl) ?_
    refine lv_iload hx hb d_L_law_549 (lv_at hl 4 rfl) ?_
    refine lv_iconst (v := 3) hx hb d_L_law_551 (by decide) ?_
    refine lv_iadd hx hb d_L_law_552 ?_
    refine W.eq (congrArg (fun z => F0 m 553 ls (.int z :: [.ref b, .int (xs (i + 2)), .int (xs (i + 1)), .ref (ad 0)])) (show ((nI i) + 3) = (nI (i + 3)) from nI_add i 3)) ?_
    refine q_sld hx hb hX hbl hbA hS (i + 3) (by omega) (by omega) d_L_law_553 ?_
    refine lv_aload_n hx hb d_L_law_554 rfl (lv_at hl 3 rfl) ?_
    refine wrSW (As := [.ref (ad 0), .int (xs (i + 1)), .int (xs (i + 2)), .int (xs (i + 3)), .ref oa]) (rest := []) ⟨hx, hb, hml, hown, htb⟩ (hML oa ko fo) (cwSW 5 htb mw_458 mw_459 mw_26 mw_460 hRL.1 hRL.2.1 (by decide +kernel) ⟨hRL.2.2.1, hRL.2.2.2⟩) (va_P_r hP) (va_P_l hP) hD rfl (hKO.app hKA) hS hA rfl hl.1 rfl (lv_room (Nat.le_of_ble_eq_true rfl)) d_L_law_555 ⟨hcc, hss⟩ (fun H locs hP1 hPk hD hS => ?_)
    refine lv_istore (lv' := [(5, .int 0), (0, .ref b), (1, .ref (ad 0)), (2, .ref (an 0)), (3, .ref oa), (4, .int (nI i))]) hx hb d_L_law_558 hl (by decide) rfl (fun ls hl => ?_)
    refine lv_aload_n hx hb d_L_law_560 rfl (lv_at hl 3 rfl) ?_
    refine lv_aload_n hx hb d_L_law_561 rfl (lv_at hl 1 rfl) ?_
    refine lv_iload hx hb d_L_law_562 (lv_at hl 5 rfl) ?_
    refine lv_iconst (v := 1) hx hb d_L_law_564 (by decide) ?_
    refine lv_iadd hx hb d_L_law_565 ?_
    refine W.eq (congrArg (fun z => F0 m 566 ls (.int z :: [.ref b, .ref (an 0)])) (show ((nI i) + 1) = (nI (i + 1)) from nI_add i 1)) ?_
    refine q_sld hx hb hX hbl hbA hS (i + 1) (by omega) (by omega) d_L_law_566 ?_
    refine lv_aload_n hx hb d_L_law_567 rfl (lv_at hl 1 rfl) ?_
    refine lv_iload hx hb d_L_law_568 (lv_at hl 5 rfl) ?_
    refine lv_iconst (v := 2) hx hb d_L_law_570 (by decide) ?_
    refine lv_iadd hx hb d_L_law_571 ?_
    refine W.eq (congrArg (fun z => F0 m 572 ls (.int z :: [.ref b, .int (xs (i + 1)), .ref (an 0)])) (show ((nI i) + 2) = (nI (i + 2)) from nI_add i 2)) ?_
    refine q_sld hx hb hX hbl hbA hS (i + 2) (by omega) (by omega) d_L_law_572 ?_
    refine lv_aload_n hx hb d_L_law_573 rfl (lv_at hl 1 rfl) ?_
    refine lv_iload hx hb d_L_law_574 (lv_at hl 5 rfl) ?_
    refine lv_iconst (v := 3) hx hb d_L_law_576 (by decide) ?_
    refine lv_iadd hx hb d_L_law_577 ?_
    refine W.eq (congrArg (fun z => F0 m 578 ls (.int z :: [.ref b, .int (xs (i + 2)), .int (xs (i + 1)), .ref (an 0)])) (show ((nI i) + 3) = (nI (i + 3)) from nI_add i 3)) ?_
    refine q_sld hx hb hX hbl hbA hS (i + 3) (by omega) (by omega) d_L_law_578 ?_
    refine wrVF (As := [.int (xs (i + 1)), .int (xs (i + 2)), .int (xs (i + 3))]) (rest := []) (b := an 0) ⟨hx, hb, hml, hown, htb⟩ hMK (cwV (C := R_K) 3 htb (gV tb_good mw_741 mw_742 mw_743 mw_31 mw_744) rfl hRK.1 hRK.2.1 (by decide +kernel) ⟨hRK.2.2.1, hRK.2.2.2⟩) hPk hP1 (D_swap hD) rfl hKK hS hA (va_recv hKK hPk (ci := 4) (q0 := 0) rfl rfl) rfl hl.1 rfl (lv_room (Nat.le_of_ble_eq_true rfl)) d_L_law_579 ⟨hcc, hss⟩ (fun H locs hPk hP1 hD hS => ?_)
    have hD := D_swap hD
    refine lv_istore (lv' := [(6, .int r), (5, .int 0), (0, .ref b), (1, .ref (ad 0)), (2, .ref (an 0)), (3, .ref oa), (4, .int (nI i))]) hx hb d_L_law_582 hl (by decide) rfl (fun ls hl => ?_)
    refine lv_aload_n hx hb d_L_law_584 rfl (lv_at hl 4 rfl) ?_
    refine rdV (As := []) (rest := []) (b := an 0) ⟨hx, hb, hml, hown, htb⟩ (c_K_thrown l D an kn h' o' u') (cwV (C := R_K) 0 htb (gV tb_good mw_664 mw_665 mw_666 mw_31 mw_667) rfl rfl rfl (by decide +kernel) ⟨Nat.le_of_ble_eq_true rfl, Nat.le_of_ble_eq_true rfl⟩) hPk hKK (va_recv hKK hPk (ci := 4) (q0 := 0) rfl rfl) rfl hl.1 rfl (lv_room (Nat.le_of_ble_eq_true rfl)) d_L_law_585 ⟨hcc, hss⟩ ?_
    refine W.eq (congrArg (fun z => F0 m 588 ls (.int z :: [])) (show (u' 0) = 0 from hu0)) ?_
    refine lv_iload hx hb d_L_law_588 (lv_at hl 1 rfl) ?_
    refine lv_icmp_eq (tgt := 595) hx hb d_L_law_590 (by decide) (fun c1 => ?_) (fun c1 => ?_)
    · refine lv_iload hx hb d_L_law_595 (lv_at hl 1 rfl) ?_
      refine lv_if_ne (tgt := 612) hx hb d_L_law_597 (by decide) (fun c2 => ?_) (fun c2 => ?_)
      · exact absurd c2 (by decide)
      · refine lv_aload_n hx hb d_L_law_600 rfl (lv_at hl 5 rfl) ?_
        refine lv_iconst (v := 0) hx hb d_L_law_601 (by decide) ?_
        refine q_lald hx hb hKO (va_P_l hP1) 0 0 rfl rfl 0 (by decide) (by decide) d_L_law_602 ?_
        refine W.eq (congrArg (fun z => F0 m 603 ls (.long z :: [])) (show (vp_updL fo 0 r.toInt64 0) = r.toInt64 from rfl)) ?_
        refine lv_iload hx hb d_L_law_603 (lv_at hl 0 rfl) ?_
        refine lv_i2l (v := (r).toInt64) hx hb d_L_law_605 rfl ?_
        refine W.lcmp hx hb d_L_law_606 ?_
        refine W.eq (congrArg (fun z => F0 m 607 ls (.int z :: [])) (show (lg_cmp r.toInt64 ((r).toInt64)) = 0 from lgc _)) ?_
        refine lv_if_eq (tgt := 612) hx hb d_L_law_607 (by decide) (fun c3 => ?_) (fun c3 => ?_)
        · refine lv_goto (tgt := 1066) hx hb d_L_law_612 (by decide) ?_
          exact kk g' z' v' h' o' u' (vp_updL fo 0 r.toInt64) _ _ _ _ _ hREL (hPk.app hP1) hD hS (by omega) (by omega) (lv_sub hl [2, 3, 4, 5, 6] rfl)
        · exact absurd c3 (by decide)
    · exact absurd c1 (by decide)
  · refine lv_aload_n hx hb d_L_law_535 rfl (lv_at hl 1 rfl) ?_
    refine lv_aload_n hx hb d_L_law_536 rfl (lv_at hl 0 rfl) ?_
    refine lv_iload hx hb d_L_law_537 (lv_at hl 4 rfl) ?_
    refine lv_iconst (v := 1) hx hb d_L_law_539 (by decide) ?_
    refine lv_iadd hx hb d_L_law_540 ?_
    refine W.eq (congrArg (fun z => F0 m 541 ls (.int z :: [.ref b, .ref (ad 0)])) (show ((nI i) + 1) = (nI (i + 1)) from nI_add i 1)) ?_
    refine q_sld hx hb hX hbl hbA hS (i + 1) (by omega) (by omega) d_L_law_541 ?_
    refine lv_aload_n hx hb d_L_law_542 rfl (lv_at hl 0 rfl) ?_
    refine lv_iload hx hb d_L_law_543 (lv_at hl 4 rfl) ?_
    refine lv_iconst (v := 2) hx hb d_L_law_545 (by decide) ?_
    refine lv_iadd hx hb d_L_law_546 ?_
    refine W.eq (congrArg (fun z => F0 m 547 ls (.int z :: [.ref b, .int (xs (i + 1)), .ref (ad 0)])) (show ((nI i) + 2) = (nI (i + 2)) from nI_add i 2)) ?_
    refine q_sld hx hb hX hbl hbA hS (i + 2) (by omega) (by omega) d_L_law_547 ?_
    refine lv_aload_n hx hb d_L_law_548 rfl (lv_at hl 0 rfl) ?_
    refine lv_iload hx hb d_L_law_549 (lv_at hl 4 rfl) ?_
    refine lv_iconst (v := 3) hx hb d_L_law_551 (by decide) ?_
    refine lv_iadd hx hb d_L_law_552 ?_
    refine W.eq (congrArg (fun z => F0 m 553 ls (.int z :: [.ref b, .int (xs (i + 2)), .int (xs (i + 1)), .ref (ad 0)])) (show ((nI i) + 3) = (nI (i + 3)) from nI_add i 3)) ?_
    refine q_sld hx hb hX hbl hbA hS (i + 3) (by omega) (by omega) d_L_law_553 ?_
    refine lv_aload_n hx hb d_L_law_554 rfl (lv_at hl 3 rfl) ?_
    refine wtSW (As := [.ref (ad 0), .int (xs (i + 1)), .int (xs (i + 2)), .int (xs (i + 3)), .ref oa]) (rest := []) ⟨hx, hb, hml, hown, htb⟩ (hML oa) (cwSW 5 htb mw_458 mw_459 mw_26 mw_460 hRL.1 hRL.2.1 (by decide +kernel) ⟨hRL.2.2.1, hRL.2.2.2⟩) (va_P_r (va_P_r hP)) hKA (F.xg hS) hS hA rfl hl.1 rfl (lv_room (Nat.le_of_ble_eq_true rfl)) d_L_law_555 ⟨hcc1, hss6⟩ (fun H locs hz hk hS => ?_)
    have hP := hP.kept (fun k q hq => hk q.1 (hP k q hq).lt)
    have hP1 := va_P_r hP
    have hPk := va_P_l hP
    refine lv_istore (lv' := [(5, .int k), (0, .ref b), (1, .ref (ad 0)), (2, .ref (an 0)), (3, .ref oa), (4, .int (nI i))]) hx hb d_L_law_558 hl (by decide) rfl (fun ls hl => ?_)
    refine lv_aload_n hx hb d_L_law_560 rfl (lv_at hl 3 rfl) ?_
    refine lv_aload_n hx hb d_L_law_561 rfl (lv_at hl 1 rfl) ?_
    refine lv_iload hx hb d_L_law_562 (lv_at hl 5 rfl) ?_
    refine lv_iconst (v := 1) hx hb d_L_law_564 (by decide) ?_
    refine lv_iadd hx hb d_L_law_565 ?_
    refine W.eq (congrArg (fun z => F0 m 566 ls (.int z :: [.ref b, .ref (an 0)])) (show ((nI i) + 1) = (nI (i + 1)) from nI_add i 1)) ?_
    refine q_sld hx hb hX hbl hbA hS (i + 1) (by omega) (by omega) d_L_law_566 ?_
    refine lv_aload_n hx hb d_L_law_567 rfl (lv_at hl 1 rfl) ?_
    refine lv_iload hx hb d_L_law_568 (lv_at hl 5 rfl) ?_
    refine lv_iconst (v := 2) hx hb d_L_law_570 (by decide) ?_
    refine lv_iadd hx hb d_L_law_571 ?_
    refine W.eq (congrArg (fun z => F0 m 572 ls (.int z :: [.ref b, .int (xs (i + 1)), .ref (an 0)])) (show ((nI i) + 2) = (nI (i + 2)) from nI_add i 2)) ?_
    refine q_sld hx hb hX hbl hbA hS (i + 2) (by omega) (by omega) d_L_law_572 ?_
    refine lv_aload_n hx hb d_L_law_573 rfl (lv_at hl 1 rfl) ?_
    refine lv_iload hx hb d_L_law_574 (lv_at hl 5 rfl) ?_
    refine lv_iconst (v := 3) hx hb d_L_law_576 (by decide) ?_
    refine lv_iadd hx hb d_L_law_577 ?_
    refine W.eq (congrArg (fun z => F0 m 578 ls (.int z :: [.ref b, .int (xs (i + 2)), .int (xs (i + 1)), .ref (an 0)])) (show ((nI i) + 3) = (nI (i + 3)) from nI_add i 3)) ?_
    refine q_sld hx hb hX hbl hbA hS (i + 3) (by omega) (by omega) d_L_law_578 ?_
    refine wrVF (As := [.int (xs (i + 1)), .int (xs (i + 2)), .int (xs (i + 3))]) (rest := []) (b := an 0) ⟨hx, hb, hml, hown, htb⟩ hMK (cwV (C := R_K) 3 htb (gV tb_good mw_741 mw_742 mw_743 mw_31 mw_744) rfl hRK.1 hRK.2.1 (by decide +kernel) ⟨hRK.2.2.1, hRK.2.2.2⟩) hPk hP1 (D_swap hD) rfl hKK hS hA (va_recv hKK hPk (ci := 4) (q0 := 0) rfl rfl) rfl hl.1 rfl (lv_room (Nat.le_of_ble_eq_true rfl)) d_L_law_579 ⟨hcc1, hss6⟩ (fun H locs hPk hP1 hD hS => ?_)
    have hD := D_swap hD
    refine lv_istore (lv' := [(6, .int r), (5, .int k), (0, .ref b), (1, .ref (ad 0)), (2, .ref (an 0)), (3, .ref oa), (4, .int (nI i))]) hx hb d_L_law_582 hl (by decide) rfl (fun ls hl => ?_)
    refine lv_aload_n hx hb d_L_law_584 rfl (lv_at hl 4 rfl) ?_
    refine rdV (As := []) (rest := []) (b := an 0) ⟨hx, hb, hml, hown, htb⟩ (c_K_thrown l D an kn h o (upd u 0 k)) (cwV (C := R_K) 0 htb (gV tb_good mw_664 mw_665 mw_666 mw_31 mw_667) rfl rfl rfl (by decide +kernel) ⟨Nat.le_of_ble_eq_true rfl, Nat.le_of_ble_eq_true rfl⟩) hPk hKK (va_recv hKK hPk (ci := 4) (q0 := 0) rfl rfl) rfl hl.1 rfl (lv_room (Nat.le_of_ble_eq_true rfl)) d_L_law_585 ⟨hcc1, hss6⟩ ?_
    refine W.eq (congrArg (fun z => F0 m 588 ls (.int z :: [])) (show (upd u 0 k 0) = k from rfl)) ?_
    refine lv_iload hx hb d_L_law_588 (lv_at hl 1 rfl) ?_
    refine lv_icmp_eq (tgt := 595) hx hb d_L_law_590 (by decide) (fun c1 => ?_) (fun c1 => ?_)
    · refine lv_iload hx hb d_L_law_595 (lv_at hl 1 rfl) ?_
      refine lv_if_ne (tgt := 612) hx hb d_L_law_597 (by decide) (fun c2 => ?_) (fun c2 => ?_)
      · refine lv_goto (tgt := 1066) hx hb d_L_law_612 (by decide) ?_
        exact kk g z v h o (upd u 0 k) fo _ _ _ _ _ hREL (hPk.app hP1) hD hS (by omega) (by omega) (lv_sub hl [2, 3, 4, 5, 6] rfl)
      · exact absurd c2 hk0
    · exact absurd rfl c1
set_option maxHeartbeats 4000000 in
set_option maxRecDepth 100000 in
theorem law_order {REL : RelT} {p : Program} {l : Launch} {e : Env} {s : State} {m : MethodId} {args : Array Value} {below : List Frame} {meth : Method} {c : Code} {Q : State → Prop} {D : va_G} {ad an : Nat → Nat} {kd kn : Nat → ClassId} {oa : Nat} {ko : ClassId} {b L i C S : Nat} {xs : Nat → Int32} {g : Nat → Nat → Int32} {z : Nat → Int64} {v : Nat → Int32} {h : Nat → Nat → Int32} {o : Nat → Bool} {u : Nat → Int32} {fo : Nat → Int64} {H : Heap} {locs : List Loc} {cells slots : Nat} {ls : Array Slot}
    (F : LF p l s m args c D kd kn ko b L xs) (hi : i + 4 ≤ L) (hR : RETS REL l D ad an kd kn g z v h o u y_L_order b_L_order 6 [(0, 12, 15, 13)] y_K_order b_K_order 4 [.int (xs (i + 1)), .int (xs (i + 2)), .int (xs (i + 3))])
    (hP : va_P D classes (wLaw ad an kd kn oa ko g z v h o u fo) H) (hD : va_D (LA s) (wLaw ad an kd kn oa ko g z v h o u fo)) (hS : va_S (LA s) s.heap H locs) (hc : cells + 1 ≤ C) (hs : slots + 6 ≤ S) (hC : C ≤ 1081) (hSS : S ≤ 14679)
    (kk : GO REL p l e s m args below meth c Q D ad an kd kn oa ko b i C S) (hl : lv_has ls 7 [(0, .ref b), (1, .ref (ad 0)), (2, .ref (an 0)), (3, .ref oa), (4, .int (nI i))]) :
    W p l e room_1 s m args below meth c H locs cells slots Q (F0 m 615 ls []) := by
  obtain ⟨hx, hb, hml, hown, htb, hX, hbl, hKA, hKK, hKO, -, hL⟩ := id F
  have hbA : ¬ LA s b := Nat.not_le.mpr hbl
  have hA : ∀ q : Nat, s.heap.size ≤ q → LA s q := fun _ h => h
  have hcc : cells ≤ room_1.cells := by show cells ≤ 1081; omega
  have hss : slots ≤ room_1.slots := by show slots ≤ 14679; omega
  have hcc1 : cells + 1 ≤ room_1.cells := by show cells + 1 ≤ 1081; omega
  have hss6 : slots + 6 ≤ room_1.slots := by show slots + 6 ≤ 14679; omega
  unfold wLaw at hP hD
  rcases hR with ⟨r, g', z', v', h', o', u', rL, rK, hRL, hRK, hML, hMK, hu0, hREL⟩ | ⟨k, r, rL, rK, hRL, hRK, hML, hMK, hk0, hREL⟩
  · refine lv_aload_n hx hb d_L_law_615 rfl (lv_at hl 1 rfl) ?_
    refine lv_aload_n hx hb d_L_law_616 rfl (lv_at hl 0 rfl) ?_
    refine lv_iload hx hb d_L_law_617 (lv_at hl 4 rfl) ?_
    refine lv_iconst (v := 1) hx hb d_L_law_619 (by decide) ?_
    refine lv_iadd hx hb d_L_law_620 ?_
    refine W.eq (congrArg (fun z => F0 m 621 ls (.int z :: [.ref b, .ref (ad 0)])) (show ((nI i) + 1) = (nI (i + 1)) from nI_add i 1)) ?_
    refine q_sld hx hb hX hbl hbA hS (i + 1) (by omega) (by omega) d_L_law_621 ?_
    refine lv_aload_n hx hb d_L_law_622 rfl (lv_at hl 0 rfl) ?_
    refine lv_iload hx hb d_L_law_623 (lv_at hl 4 rfl) ?_
    refine lv_iconst (v := 2) hx hb d_L_law_625 (by decide) ?_
    refine lv_iadd hx hb d_L_law_626 ?_
    refine W.eq (congrArg (fun z => F0 m 627 ls (.int z :: [.ref b, .int (xs (i + 1)), .ref (ad 0)])) (show ((nI i) + 2) = (nI (i + 2)) from nI_add i 2)) ?_
    refine q_sld hx hb hX hbl hbA hS (i + 2) (by omega) (by omega) d_L_law_627 ?_
    refine lv_aload_n hx hb d_L_law_628 rfl (lv_at hl 0 rfl) ?_
    refine lv_iload hx hb d_L_law_629 (lv_at hl 4 rfl) ?_
    refine lv_iconst (v := 3) hx hb d_L_law_631 (by decide) ?_
    refine lv_iadd hx hb d_L_law_632 ?_
    refine W.eq (congrArg (fun z => F0 m 633 ls (.int z :: [.ref b, .int (xs (i + 2)), .int (xs (i + 1)), .ref (ad 0)])) (show ((nI i) + 3) = (nI (i + 3)) from nI_add i 3)) ?_
    refine q_sld hx hb hX hbl hbA hS (i + 3) (by omega) (by omega) d_L_law_633 ?_
    refine lv_aload_n hx hb d_L_law_634 rfl (lv_at hl 3 rfl) ?_
    refine wrSW (As := [.ref (ad 0), .int (xs (i + 1)), .int (xs (i + 2)), .int (xs (i + 3)), .ref oa]) (rest := []) ⟨hx, hb, hml, hown, htb⟩ (hML oa ko fo) (cwSW 5 htb mw_470 mw_471 mw_26 mw_472 hRL.1 hRL.2.1 (by decide +kernel) ⟨hRL.2.2.1, hRL.2.2.2⟩) (va_P_r hP) (va_P_l hP) hD rfl (hKO.app hKA) hS hA rfl hl.1 rfl (lv_room (Nat.le_of_ble_eq_true rfl)) d_L_law_635 ⟨hcc, hss⟩ (fun H locs hP1 hPk hD hS => ?_)
    refine lv_istore (lv' := [(5, .int 0), (0, .ref b), (1, .ref (ad 0)), (2, .ref (an 0)), (3, .ref oa), (4, .int (nI i))]) hx hb d_L_law_638 hl (by decide) rfl (fun ls hl => ?_)
    refine lv_aload_n hx hb d_L_law_640 rfl (lv_at hl 3 rfl) ?_
    refine lv_aload_n hx hb d_L_law_641 rfl (lv_at hl 1 rfl) ?_
    refine lv_iload hx hb d_L_law_642 (lv_at hl 5 rfl) ?_
    refine lv_iconst (v := 1) hx hb d_L_law_644 (by decide) ?_
    refine lv_iadd hx hb d_L_law_645 ?_
    refine W.eq (congrArg (fun z => F0 m 646 ls (.int z :: [.ref b, .ref (an 0)])) (show ((nI i) + 1) = (nI (i + 1)) from nI_add i 1)) ?_
    refine q_sld hx hb hX hbl hbA hS (i + 1) (by omega) (by omega) d_L_law_646 ?_
    refine lv_aload_n hx hb d_L_law_647 rfl (lv_at hl 1 rfl) ?_
    refine lv_iload hx hb d_L_law_648 (lv_at hl 5 rfl) ?_
    refine lv_iconst (v := 2) hx hb d_L_law_650 (by decide) ?_
    refine lv_iadd hx hb d_L_law_651 ?_
    refine W.eq (congrArg (fun z => F0 m 652 ls (.int z :: [.ref b, .int (xs (i + 1)), .ref (an 0)])) (show ((nI i) + 2) = (nI (i + 2)) from nI_add i 2)) ?_
    refine q_sld hx hb hX hbl hbA hS (i + 2) (by omega) (by omega) d_L_law_652 ?_
    refine lv_aload_n hx hb d_L_law_653 rfl (lv_at hl 1 rfl) ?_
    refine lv_iload hx hb d_L_law_654 (lv_at hl 5 rfl) ?_
    refine lv_iconst (v := 3) hx hb d_L_law_656 (by decide) ?_
    refine lv_iadd hx hb d_L_law_657 ?_
    refine W.eq (congrArg (fun z => F0 m 658 ls (.int z :: [.ref b, .int (xs (i + 2)), .int (xs (i + 1)), .ref (an 0)])) (show ((nI i) + 3) = (nI (i + 3)) from nI_add i 3)) ?_
    refine q_sld hx hb hX hbl hbA hS (i + 3) (by omega) (by omega) d_L_law_658 ?_
    refine wrVF (As := [.int (xs (i + 1)), .int (xs (i + 2)), .int (xs (i + 3))]) (rest := []) (b := an 0) ⟨hx, hb, hml, hown, htb⟩ hMK (cwV (C := R_K) 3 htb (gV tb_good mw_748 mw_749 mw_750 mw_31 mw_751) rfl hRK.1 hRK.2.1 (by decide +kernel) ⟨hRK.2.2.1, hRK.2.2.2⟩) hPk hP1 (D_swap hD) rfl hKK hS hA (va_recv hKK hPk (ci := 4) (q0 := 0) rfl rfl) rfl hl.1 rfl (lv_room (Nat.le_of_ble_eq_true rfl)) d_L_law_659 ⟨hcc, hss⟩ (fun H locs hPk hP1 hD hS => ?_)
    have hD := D_swap hD
    refine lv_istore (lv' := [(6, .int r), (5, .int 0), (0, .ref b), (1, .ref (ad 0)), (2, .ref (an 0)), (3, .ref oa), (4, .int (nI i))]) hx hb d_L_law_662 hl (by decide) rfl (fun ls hl => ?_)
    refine lv_aload_n hx hb d_L_law_664 rfl (lv_at hl 4 rfl) ?_
    refine rdV (As := []) (rest := []) (b := an 0) ⟨hx, hb, hml, hown, htb⟩ (c_K_thrown l D an kn h' o' u') (cwV (C := R_K) 0 htb (gV tb_good mw_664 mw_665 mw_666 mw_31 mw_667) rfl rfl rfl (by decide +kernel) ⟨Nat.le_of_ble_eq_true rfl, Nat.le_of_ble_eq_true rfl⟩) hPk hKK (va_recv hKK hPk (ci := 4) (q0 := 0) rfl rfl) rfl hl.1 rfl (lv_room (Nat.le_of_ble_eq_true rfl)) d_L_law_665 ⟨hcc, hss⟩ ?_
    refine W.eq (congrArg (fun z => F0 m 668 ls (.int z :: [])) (show (u' 0) = 0 from hu0)) ?_
    refine lv_iload hx hb d_L_law_668 (lv_at hl 1 rfl) ?_
    refine lv_icmp_eq (tgt := 675) hx hb d_L_law_670 (by decide) (fun c1 => ?_) (fun c1 => ?_)
    · refine lv_iload hx hb d_L_law_675 (lv_at hl 1 rfl) ?_
      refine lv_if_ne (tgt := 692) hx hb d_L_law_677 (by decide) (fun c2 => ?_) (fun c2 => ?_)
      · exact absurd c2 (by decide)
      · refine lv_aload_n hx hb d_L_law_680 rfl (lv_at hl 5 rfl) ?_
        refine lv_iconst (v := 0) hx hb d_L_law_681 (by decide) ?_
        refine q_lald hx hb hKO (va_P_l hP1) 0 0 rfl rfl 0 (by decide) (by decide) d_L_law_682 ?_
        refine W.eq (congrArg (fun z => F0 m 683 ls (.long z :: [])) (show (vp_updL fo 0 r.toInt64 0) = r.toInt64 from rfl)) ?_
        refine lv_iload hx hb d_L_law_683 (lv_at hl 0 rfl) ?_
        refine lv_i2l (v := (r).toInt64) hx hb d_L_law_685 rfl ?_
        refine W.lcmp hx hb d_L_law_686 ?_
        refine W.eq (congrArg (fun z => F0 m 687 ls (.int z :: [])) (show (lg_cmp r.toInt64 ((r).toInt64)) = 0 from lgc _)) ?_
        refine lv_if_eq (tgt := 692) hx hb d_L_law_687 (by decide) (fun c3 => ?_) (fun c3 => ?_)
        · refine lv_goto (tgt := 1066) hx hb d_L_law_692 (by decide) ?_
          exact kk g' z' v' h' o' u' (vp_updL fo 0 r.toInt64) _ _ _ _ _ hREL (hPk.app hP1) hD hS (by omega) (by omega) (lv_sub hl [2, 3, 4, 5, 6] rfl)
        · exact absurd c3 (by decide)
    · exact absurd c1 (by decide)
  · refine lv_aload_n hx hb d_L_law_615 rfl (lv_at hl 1 rfl) ?_
    refine lv_aload_n hx hb d_L_law_616 rfl (lv_at hl 0 rfl) ?_
    refine lv_iload hx hb d_L_law_617 (lv_at hl 4 rfl) ?_
    refine lv_iconst (v := 1) hx hb d_L_law_619 (by decide) ?_
    refine lv_iadd hx hb d_L_law_620 ?_
    refine W.eq (congrArg (fun z => F0 m 621 ls (.int z :: [.ref b, .ref (ad 0)])) (show ((nI i) + 1) = (nI (i + 1)) from nI_add i 1)) ?_
    refine q_sld hx hb hX hbl hbA hS (i + 1) (by omega) (by omega) d_L_law_621 ?_
    refine lv_aload_n hx hb d_L_law_622 rfl (lv_at hl 0 rfl) ?_
    refine lv_iload hx hb d_L_law_623 (lv_at hl 4 rfl) ?_
    refine lv_iconst (v := 2) hx hb d_L_law_625 (by decide) ?_
    refine lv_iadd hx hb d_L_law_626 ?_
    refine W.eq (congrArg (fun z => F0 m 627 ls (.int z :: [.ref b, .int (xs (i + 1)), .ref (ad 0)])) (show ((nI i) + 2) = (nI (i + 2)) from nI_add i 2)) ?_
    refine q_sld hx hb hX hbl hbA hS (i + 2) (by omega) (by omega) d_L_law_627 ?_
    refine lv_aload_n hx hb d_L_law_628 rfl (lv_at hl 0 rfl) ?_
    refine lv_iload hx hb d_L_law_629 (lv_at hl 4 rfl) ?_
    refine lv_iconst (v := 3) hx hb d_L_law_631 (by decide) ?_
    refine lv_iadd hx hb d_L_law_632 ?_
    refine W.eq (congrArg (fun z => F0 m 633 ls (.int z :: [.ref b, .int (xs (i + 2)), .int (xs (i + 1)), .ref (ad 0)])) (show ((nI i) + 3) = (nI (i + 3)) from nI_add i 3)) ?_
    refine q_sld hx hb hX hbl hbA hS (i + 3) (by omega) (by omega) d_L_law_633 ?_
    refine lv_aload_n hx hb d_L_law_634 rfl (lv_at hl 3 rfl) ?_
    refine wtSW (As := [.ref (ad 0), .int (xs (i + 1)), .int (xs (i + 2)), .int (xs (i + 3)), .ref oa]) (rest := []) ⟨hx, hb, hml, hown, htb⟩ (hML oa) (cwSW 5 htb mw_470 mw_471 mw_26 mw_472 hRL.1 hRL.2.1 (by decide +kernel) ⟨hRL.2.2.1, hRL.2.2.2⟩) (va_P_r (va_P_r hP)) hKA (F.xg hS) hS hA rfl hl.1 rfl (lv_room (Nat.le_of_ble_eq_true rfl)) d_L_law_635 ⟨hcc1, hss6⟩ (fun H locs hz hk hS => ?_)
    have hP := hP.kept (fun k q hq => hk q.1 (hP k q hq).lt)
    have hP1 := va_P_r hP
    have hPk := va_P_l hP
    refine lv_istore (lv' := [(5, .int k), (0, .ref b), (1, .ref (ad 0)), (2, .ref (an 0)), (3, .ref oa), (4, .int (nI i))]) hx hb d_L_law_638 hl (by decide) rfl (fun ls hl => ?_)
    refine lv_aload_n hx hb d_L_law_640 rfl (lv_at hl 3 rfl) ?_
    refine lv_aload_n hx hb d_L_law_641 rfl (lv_at hl 1 rfl) ?_
    refine lv_iload hx hb d_L_law_642 (lv_at hl 5 rfl) ?_
    refine lv_iconst (v := 1) hx hb d_L_law_644 (by decide) ?_
    refine lv_iadd hx hb d_L_law_645 ?_
    refine W.eq (congrArg (fun z => F0 m 646 ls (.int z :: [.ref b, .ref (an 0)])) (show ((nI i) + 1) = (nI (i + 1)) from nI_add i 1)) ?_
    refine q_sld hx hb hX hbl hbA hS (i + 1) (by omega) (by omega) d_L_law_646 ?_
    refine lv_aload_n hx hb d_L_law_647 rfl (lv_at hl 1 rfl) ?_
    refine lv_iload hx hb d_L_law_648 (lv_at hl 5 rfl) ?_
    refine lv_iconst (v := 2) hx hb d_L_law_650 (by decide) ?_
    refine lv_iadd hx hb d_L_law_651 ?_
    refine W.eq (congrArg (fun z => F0 m 652 ls (.int z :: [.ref b, .int (xs (i + 1)), .ref (an 0)])) (show ((nI i) + 2) = (nI (i + 2)) from nI_add i 2)) ?_
    refine q_sld hx hb hX hbl hbA hS (i + 2) (by omega) (by omega) d_L_law_652 ?_
    refine lv_aload_n hx hb d_L_law_653 rfl (lv_at hl 1 rfl) ?_
    refine lv_iload hx hb d_L_law_654 (lv_at hl 5 rfl) ?_
    refine lv_iconst (v := 3) hx hb d_L_law_656 (by decide) ?_
    refine lv_iadd hx hb d_L_law_657 ?_
    refine W.eq (congrArg (fun z => F0 m 658 ls (.int z :: [.ref b, .int (xs (i + 2)), .int (xs (i + 1)), .ref (an 0)])) (show ((nI i) + 3) = (nI (i + 3)) from nI_add i 3)) ?_
    refine q_sld hx hb hX hbl hbA hS (i + 3) (by omega) (by omega) d_L_law_658 ?_
    refine wrVF (As := [.int (xs (i + 1)), .int (xs (i + 2)), .int (xs (i + 3))]) (rest := []) (b := an 0) ⟨hx, hb, hml, hown, htb⟩ hMK (cwV (C := R_K) 3 htb (gV tb_good mw_748 mw_749 mw_750 mw_31 mw_751) rfl hRK.1 hRK.2.1 (by decide +kernel) ⟨hRK.2.2.1, hRK.2.2.2⟩) hPk hP1 (D_swap hD) rfl hKK hS hA (va_recv hKK hPk (ci := 4) (q0 := 0) rfl rfl) rfl hl.1 rfl (lv_room (Nat.le_of_ble_eq_true rfl)) d_L_law_659 ⟨hcc1, hss6⟩ (fun H locs hPk hP1 hD hS => ?_)
    have hD := D_swap hD
    refine lv_istore (lv' := [(6, .int r), (5, .int k), (0, .ref b), (1, .ref (ad 0)), (2, .ref (an 0)), (3, .ref oa), (4, .int (nI i))]) hx hb d_L_law_662 hl (by decide) rfl (fun ls hl => ?_)
    refine lv_aload_n hx hb d_L_law_664 rfl (lv_at hl 4 rfl) ?_
    refine rdV (As := []) (rest := []) (b := an 0) ⟨hx, hb, hml, hown, htb⟩ (c_K_thrown l D an kn h o (upd u 0 k)) (cwV (C := R_K) 0 htb (gV tb_good mw_664 mw_665 mw_666 mw_31 mw_667) rfl rfl rfl (by decide +kernel) ⟨Nat.le_of_ble_eq_true rfl, Nat.le_of_ble_eq_true rfl⟩) hPk hKK (va_recv hKK hPk (ci := 4) (q0 := 0) rfl rfl) rfl hl.1 rfl (lv_room (Nat.le_of_ble_eq_true rfl)) d_L_law_665 ⟨hcc1, hss6⟩ ?_
    refine W.eq (congrArg (fun z => F0 m 668 ls (.int z :: [])) (show (upd u 0 k 0) = k from rfl)) ?_
    refine lv_iload hx hb d_L_law_668 (lv_at hl 1 rfl) ?_
    refine lv_icmp_eq (tgt := 675) hx hb d_L_law_670 (by decide) (fun c1 => ?_) (fun c1 => ?_)
    · refine lv_iload hx hb d_L_law_675 (lv_at hl 1 rfl) ?_
      refine lv_if_ne (tgt := 692) hx hb d_L_law_677 (by decide) (fun c2 => ?_) (fun c2 => ?_)
      · refine lv_goto (tgt := 1066) hx hb d_L_law_692 (by decide) ?_
        exact kk g z v h o (upd u 0 k) fo _ _ _ _ _ hREL (hPk.app hP1) hD hS (by omega) (by omega) (lv_sub hl [2, 3, 4, 5, 6] rfl)
      · exact absurd c2 hk0
    · exact absurd rfl c1
set_option maxHeartbeats 4000000 in
set_option maxRecDepth 100000 in
theorem law_split {REL : RelT} {p : Program} {l : Launch} {e : Env} {s : State} {m : MethodId} {args : Array Value} {below : List Frame} {meth : Method} {c : Code} {Q : State → Prop} {D : va_G} {ad an : Nat → Nat} {kd kn : Nat → ClassId} {oa : Nat} {ko : ClassId} {b L i C S : Nat} {xs : Nat → Int32} {g : Nat → Nat → Int32} {z : Nat → Int64} {v : Nat → Int32} {h : Nat → Nat → Int32} {o : Nat → Bool} {u : Nat → Int32} {fo : Nat → Int64} {H : Heap} {locs : List Loc} {cells slots : Nat} {ls : Array Slot}
    (F : LF p l s m args c D kd kn ko b L xs) (hi : i + 4 ≤ L) (hR : RETS REL l D ad an kd kn g z v h o u y_L_split b_L_split 5 [(0, 10, 13, 13), (0, 10, 17, 15)] y_K_split b_K_split 8 [.int (xs (i + 1)), .int (xs (i + 2))])
    (hP : va_P D classes (wLaw ad an kd kn oa ko g z v h o u fo) H) (hD : va_D (LA s) (wLaw ad an kd kn oa ko g z v h o u fo)) (hS : va_S (LA s) s.heap H locs) (hc : cells + 1 ≤ C) (hs : slots + 6 ≤ S) (hC : C ≤ 1081) (hSS : S ≤ 14679)
    (kk : GO REL p l e s m args below meth c Q D ad an kd kn oa ko b i C S) (hl : lv_has ls 7 [(0, .ref b), (1, .ref (ad 0)), (2, .ref (an 0)), (3, .ref oa), (4, .int (nI i))]) :
    W p l e room_1 s m args below meth c H locs cells slots Q (F0 m 695 ls []) := by
  obtain ⟨hx, hb, hml, hown, htb, hX, hbl, hKA, hKK, hKO, -, hL⟩ := id F
  have hbA : ¬ LA s b := Nat.not_le.mpr hbl
  have hA : ∀ q : Nat, s.heap.size ≤ q → LA s q := fun _ h => h
  have hcc : cells ≤ room_1.cells := by show cells ≤ 1081; omega
  have hss : slots ≤ room_1.slots := by show slots ≤ 14679; omega
  have hcc1 : cells + 1 ≤ room_1.cells := by show cells + 1 ≤ 1081; omega
  have hss6 : slots + 6 ≤ room_1.slots := by show slots + 6 ≤ 14679; omega
  unfold wLaw at hP hD
  rcases hR with ⟨r, g', z', v', h', o', u', rL, rK, hRL, hRK, hML, hMK, hu0, hREL⟩ | ⟨k, r, rL, rK, hRL, hRK, hML, hMK, hk0, hREL⟩
  · refine lv_aload_n hx hb d_L_law_695 rfl (lv_at hl 1 rfl) ?_
    refine lv_aload_n hx hb d_L_law_696 rfl (lv_at hl 0 rfl) ?_
    refine lv_iload hx hb d_L_law_697 (lv_at hl 4 rfl) ?_
    refine lv_iconst (v := 1) hx hb d_L_law_699 (by decide) ?_
    refine lv_iadd hx hb d_L_law_700 ?_
    refine W.eq (congrArg (fun z => F0 m 701 ls (.int z :: [.ref b, .ref (ad 0)])) (show ((nI i) + 1) = (nI (i + 1)) from nI_add i 1)) ?_
    refine q_sld hx hb hX hbl hbA hS (i + 1) (by omega) (by omega) d_L_law_701 ?_
    refine lv_aload_n hx hb d_L_law_702 rfl (lv_at hl 0 rfl) ?_
    refine lv_iload hx hb d_L_law_703 (lv_at hl 4 rfl) ?_
    refine lv_iconst (v := 2) hx hb d_L_law_705 (by decide) ?_
    refine lv_iadd hx hb d_L_law_706 ?_
    refine W.eq (congrArg (fun z => F0 m 707 ls (.int z :: [.ref b, .int (xs (i + 1)), .ref (ad 0)])) (show ((nI i) + 2) = (nI (i + 2)) from nI_add i 2)) ?_
    refine q_sld hx hb hX hbl hbA hS (i + 2) (by omega) (by omega) d_L_law_707 ?_
    refine lv_aload_n hx hb d_L_law_708 rfl (lv_at hl 3 rfl) ?_
    refine wrSW (As := [.ref (ad 0), .int (xs (i + 1)), .int (xs (i + 2)), .ref oa]) (rest := []) ⟨hx, hb, hml, hown, htb⟩ (hML oa ko fo) (cwSW 4 htb mw_478 mw_479 mw_26 mw_480 hRL.1 hRL.2.1 (by decide +kernel) ⟨hRL.2.2.1, hRL.2.2.2⟩) (va_P_r hP) (va_P_l hP) hD rfl (hKO.app hKA) hS hA rfl hl.1 rfl (lv_room (Nat.le_of_ble_eq_true rfl)) d_L_law_709 ⟨hcc, hss⟩ (fun H locs hP1 hPk hD hS => ?_)
    refine lv_istore (lv' := [(5, .int 0), (0, .ref b), (1, .ref (ad 0)), (2, .ref (an 0)), (3, .ref oa), (4, .int (nI i))]) hx hb d_L_law_712 hl (by decide) rfl (fun ls hl => ?_)
    refine lv_aload_n hx hb d_L_law_714 rfl (lv_at hl 3 rfl) ?_
    refine lv_aload_n hx hb d_L_law_715 rfl (lv_at hl 1 rfl) ?_
    refine lv_iload hx hb d_L_law_716 (lv_at hl 5 rfl) ?_
    refine lv_iconst (v := 1) hx hb d_L_law_718 (by decide) ?_
    refine lv_iadd hx hb d_L_law_719 ?_
    refine W.eq (congrArg (fun z => F0 m 720 ls (.int z :: [.ref b, .ref (an 0)])) (show ((nI i) + 1) = (nI (i + 1)) from nI_add i 1)) ?_
    refine q_sld hx hb hX hbl hbA hS (i + 1) (by omega) (by omega) d_L_law_720 ?_
    refine lv_aload_n hx hb d_L_law_721 rfl (lv_at hl 1 rfl) ?_
    refine lv_iload hx hb d_L_law_722 (lv_at hl 5 rfl) ?_
    refine lv_iconst (v := 2) hx hb d_L_law_724 (by decide) ?_
    refine lv_iadd hx hb d_L_law_725 ?_
    refine W.eq (congrArg (fun z => F0 m 726 ls (.int z :: [.ref b, .int (xs (i + 1)), .ref (an 0)])) (show ((nI i) + 2) = (nI (i + 2)) from nI_add i 2)) ?_
    refine q_sld hx hb hX hbl hbA hS (i + 2) (by omega) (by omega) d_L_law_726 ?_
    refine wrVF (As := [.int (xs (i + 1)), .int (xs (i + 2))]) (rest := []) (b := an 0) ⟨hx, hb, hml, hown, htb⟩ hMK (cwV (C := R_K) 2 htb (gV tb_good mw_752 mw_753 mw_754 mw_31 mw_755) rfl hRK.1 hRK.2.1 (by decide +kernel) ⟨hRK.2.2.1, hRK.2.2.2⟩) hPk hP1 (D_swap hD) rfl hKK hS hA (va_recv hKK hPk (ci := 4) (q0 := 0) rfl rfl) rfl hl.1 rfl (lv_room (Nat.le_of_ble_eq_true rfl)) d_L_law_727 ⟨hcc, hss⟩ (fun H locs hPk hP1 hD hS => ?_)
    have hD := D_swap hD
    refine lv_istore (lv' := [(6, .int r), (5, .int 0), (0, .ref b), (1, .ref (ad 0)), (2, .ref (an 0)), (3, .ref oa), (4, .int (nI i))]) hx hb d_L_law_730 hl (by decide) rfl (fun ls hl => ?_)
    refine lv_aload_n hx hb d_L_law_732 rfl (lv_at hl 4 rfl) ?_
    refine rdV (As := []) (rest := []) (b := an 0) ⟨hx, hb, hml, hown, htb⟩ (c_K_thrown l D an kn h' o' u') (cwV (C := R_K) 0 htb (gV tb_good mw_664 mw_665 mw_666 mw_31 mw_667) rfl rfl rfl (by decide +kernel) ⟨Nat.le_of_ble_eq_true rfl, Nat.le_of_ble_eq_true rfl⟩) hPk hKK (va_recv hKK hPk (ci := 4) (q0 := 0) rfl rfl) rfl hl.1 rfl (lv_room (Nat.le_of_ble_eq_true rfl)) d_L_law_733 ⟨hcc, hss⟩ ?_
    refine W.eq (congrArg (fun z => F0 m 736 ls (.int z :: [])) (show (u' 0) = 0 from hu0)) ?_
    refine lv_iload hx hb d_L_law_736 (lv_at hl 1 rfl) ?_
    refine lv_icmp_eq (tgt := 743) hx hb d_L_law_738 (by decide) (fun c1 => ?_) (fun c1 => ?_)
    · refine lv_iload hx hb d_L_law_743 (lv_at hl 1 rfl) ?_
      refine lv_if_ne (tgt := 760) hx hb d_L_law_745 (by decide) (fun c2 => ?_) (fun c2 => ?_)
      · exact absurd c2 (by decide)
      · refine lv_aload_n hx hb d_L_law_748 rfl (lv_at hl 5 rfl) ?_
        refine lv_iconst (v := 0) hx hb d_L_law_749 (by decide) ?_
        refine q_lald hx hb hKO (va_P_l hP1) 0 0 rfl rfl 0 (by decide) (by decide) d_L_law_750 ?_
        refine W.eq (congrArg (fun z => F0 m 751 ls (.long z :: [])) (show (vp_updL fo 0 r.toInt64 0) = r.toInt64 from rfl)) ?_
        refine lv_iload hx hb d_L_law_751 (lv_at hl 0 rfl) ?_
        refine lv_i2l (v := (r).toInt64) hx hb d_L_law_753 rfl ?_
        refine W.lcmp hx hb d_L_law_754 ?_
        refine W.eq (congrArg (fun z => F0 m 755 ls (.int z :: [])) (show (lg_cmp r.toInt64 ((r).toInt64)) = 0 from lgc _)) ?_
        refine lv_if_eq (tgt := 760) hx hb d_L_law_755 (by decide) (fun c3 => ?_) (fun c3 => ?_)
        · refine lv_goto (tgt := 1066) hx hb d_L_law_760 (by decide) ?_
          exact kk g' z' v' h' o' u' (vp_updL fo 0 r.toInt64) _ _ _ _ _ hREL (hPk.app hP1) hD hS (by omega) (by omega) (lv_sub hl [2, 3, 4, 5, 6] rfl)
        · exact absurd c3 (by decide)
    · exact absurd c1 (by decide)
  · refine lv_aload_n hx hb d_L_law_695 rfl (lv_at hl 1 rfl) ?_
    refine lv_aload_n hx hb d_L_law_696 rfl (lv_at hl 0 rfl) ?_
    refine lv_iload hx hb d_L_law_697 (lv_at hl 4 rfl) ?_
    refine lv_iconst (v := 1) hx hb d_L_law_699 (by decide) ?_
    refine lv_iadd hx hb d_L_law_700 ?_
    refine W.eq (congrArg (fun z => F0 m 701 ls (.int z :: [.ref b, .ref (ad 0)])) (show ((nI i) + 1) = (nI (i + 1)) from nI_add i 1)) ?_
    refine q_sld hx hb hX hbl hbA hS (i + 1) (by omega) (by omega) d_L_law_701 ?_
    refine lv_aload_n hx hb d_L_law_702 rfl (lv_at hl 0 rfl) ?_
    refine lv_iload hx hb d_L_law_703 (lv_at hl 4 rfl) ?_
    refine lv_iconst (v := 2) hx hb d_L_law_705 (by decide) ?_
    refine lv_iadd hx hb d_L_law_706 ?_
    refine W.eq (congrArg (fun z => F0 m 707 ls (.int z :: [.ref b, .int (xs (i + 1)), .ref (ad 0)])) (show ((nI i) + 2) = (nI (i + 2)) from nI_add i 2)) ?_
    refine q_sld hx hb hX hbl hbA hS (i + 2) (by omega) (by omega) d_L_law_707 ?_
    refine lv_aload_n hx hb d_L_law_708 rfl (lv_at hl 3 rfl) ?_
    refine wtSW (As := [.ref (ad 0), .int (xs (i + 1)), .int (xs (i + 2)), .ref oa]) (rest := []) ⟨hx, hb, hml, hown, htb⟩ (hML oa) (cwSW 4 htb mw_478 mw_479 mw_26 mw_480 hRL.1 hRL.2.1 (by decide +kernel) ⟨hRL.2.2.1, hRL.2.2.2⟩) (va_P_r (va_P_r hP)) hKA (F.xg hS) hS hA rfl hl.1 rfl (lv_room (Nat.le_of_ble_eq_true rfl)) d_L_law_709 ⟨hcc1, hss6⟩ (fun H locs hz hk hS => ?_)
    have hP := hP.kept (fun k q hq => hk q.1 (hP k q hq).lt)
    have hP1 := va_P_r hP
    have hPk := va_P_l hP
    refine lv_istore (lv' := [(5, .int k), (0, .ref b), (1, .ref (ad 0)), (2, .ref (an 0)), (3, .ref oa), (4, .int (nI i))]) hx hb d_L_law_712 hl (by decide) rfl (fun ls hl => ?_)
    refine lv_aload_n hx hb d_L_law_714 rfl (lv_at hl 3 rfl) ?_
    refine lv_aload_n hx hb d_L_law_715 rfl (lv_at hl 1 rfl) ?_
    refine lv_iload hx hb d_L_law_716 (lv_at hl 5 rfl) ?_
    refine lv_iconst (v := 1) hx hb d_L_law_718 (by decide) ?_
    refine lv_iadd hx hb d_L_law_719 ?_
    refine W.eq (congrArg (fun z => F0 m 720 ls (.int z :: [.ref b, .ref (an 0)])) (show ((nI i) + 1) = (nI (i + 1)) from nI_add i 1)) ?_
    refine q_sld hx hb hX hbl hbA hS (i + 1) (by omega) (by omega) d_L_law_720 ?_
    refine lv_aload_n hx hb d_L_law_721 rfl (lv_at hl 1 rfl) ?_
    refine lv_iload hx hb d_L_law_722 (lv_at hl 5 rfl) ?_
    refine lv_iconst (v := 2) hx hb d_L_law_724 (by decide) ?_
    refine lv_iadd hx hb d_L_law_725 ?_
    refine W.eq (congrArg (fun z => F0 m 726 ls (.int z :: [.ref b, .int (xs (i + 1)), .ref (an 0)])) (show ((nI i) + 2) = (nI (i + 2)) from nI_add i 2)) ?_
    refine q_sld hx hb hX hbl hbA hS (i + 2) (by omega) (by omega) d_L_law_726 ?_
    refine wrVF (As := [.int (xs (i + 1)), .int (xs (i + 2))]) (rest := []) (b := an 0) ⟨hx, hb, hml, hown, htb⟩ hMK (cwV (C := R_K) 2 htb (gV tb_good mw_752 mw_753 mw_754 mw_31 mw_755) rfl hRK.1 hRK.2.1 (by decide +kernel) ⟨hRK.2.2.1, hRK.2.2.2⟩) hPk hP1 (D_swap hD) rfl hKK hS hA (va_recv hKK hPk (ci := 4) (q0 := 0) rfl rfl) rfl hl.1 rfl (lv_room (Nat.le_of_ble_eq_true rfl)) d_L_law_727 ⟨hcc1, hss6⟩ (fun H locs hPk hP1 hD hS => ?_)
    have hD := D_swap hD
    refine lv_istore (lv' := [(6, .int r), (5, .int k), (0, .ref b), (1, .ref (ad 0)), (2, .ref (an 0)), (3, .ref oa), (4, .int (nI i))]) hx hb d_L_law_730 hl (by decide) rfl (fun ls hl => ?_)
    refine lv_aload_n hx hb d_L_law_732 rfl (lv_at hl 4 rfl) ?_
    refine rdV (As := []) (rest := []) (b := an 0) ⟨hx, hb, hml, hown, htb⟩ (c_K_thrown l D an kn h o (upd u 0 k)) (cwV (C := R_K) 0 htb (gV tb_good mw_664 mw_665 mw_666 mw_31 mw_667) rfl rfl rfl (by decide +kernel) ⟨Nat.le_of_ble_eq_true rfl, Nat.le_of_ble_eq_true rfl⟩) hPk hKK (va_recv hKK hPk (ci := 4) (q0 := 0) rfl rfl) rfl hl.1 rfl (lv_room (Nat.le_of_ble_eq_true rfl)) d_L_law_733 ⟨hcc1, hss6⟩ ?_
    refine W.eq (congrArg (fun z => F0 m 736 ls (.int z :: [])) (show (upd u 0 k 0) = k from rfl)) ?_
    refine lv_iload hx hb d_L_law_736 (lv_at hl 1 rfl) ?_
    refine lv_icmp_eq (tgt := 743) hx hb d_L_law_738 (by decide) (fun c1 => ?_) (fun c1 => ?_)
    · refine lv_iload hx hb d_L_law_743 (lv_at hl 1 rfl) ?_
      refine lv_if_ne (tgt := 760) hx hb d_L_law_745 (by decide) (fun c2 => ?_) (fun c2 => ?_)
      · refine lv_goto (tgt := 1066) hx hb d_L_law_760 (by decide) ?_
        exact kk g z v h o (upd u 0 k) fo _ _ _ _ _ hREL (hPk.app hP1) hD hS (by omega) (by omega) (lv_sub hl [2, 3, 4, 5, 6] rfl)
      · exact absurd c2 hk0
    · exact absurd rfl c1
set_option maxHeartbeats 4000000 in
set_option maxRecDepth 100000 in
theorem law_leg {REL : RelT} {p : Program} {l : Launch} {e : Env} {s : State} {m : MethodId} {args : Array Value} {below : List Frame} {meth : Method} {c : Code} {Q : State → Prop} {D : va_G} {ad an : Nat → Nat} {kd kn : Nat → ClassId} {oa : Nat} {ko : ClassId} {b L i C S : Nat} {xs : Nat → Int32} {g : Nat → Nat → Int32} {z : Nat → Int64} {v : Nat → Int32} {h : Nat → Nat → Int32} {o : Nat → Bool} {u : Nat → Int32} {fo : Nat → Int64} {H : Heap} {locs : List Loc} {cells slots : Nat} {ls : Array Slot}
    (F : LF p l s m args c D kd kn ko b L xs) (hi : i + 4 ≤ L) (hR : BOTH REL l D ad an kd kn g z v h o u y_M_leg b_M_leg 3 y_K_leg b_K_leg 3 .boolean [.int (xs (i + 1)), .int (xs (i + 2))])
    (hP : va_P D classes (wLaw ad an kd kn oa ko g z v h o u fo) H) (hD : va_D (LA s) (wLaw ad an kd kn oa ko g z v h o u fo)) (hS : va_S (LA s) s.heap H locs) (hc : cells + 1 ≤ C) (hs : slots + 6 ≤ S) (hC : C ≤ 1081) (hSS : S ≤ 14679)
    (kk : GO REL p l e s m args below meth c Q D ad an kd kn oa ko b i C S) (hl : lv_has ls 7 [(0, .ref b), (1, .ref (ad 0)), (2, .ref (an 0)), (3, .ref oa), (4, .int (nI i))]) :
    W p l e room_1 s m args below meth c H locs cells slots Q (F0 m 763 ls []) := by
  obtain ⟨hx, hb, hml, hown, htb, hX, hbl, hKA, hKK, hKO, -, hL⟩ := id F
  have hbA : ¬ LA s b := Nat.not_le.mpr hbl
  have hA : ∀ q : Nat, s.heap.size ≤ q → LA s q := fun _ h => h
  have hcc : cells ≤ room_1.cells := by show cells ≤ 1081; omega
  have hss : slots ≤ room_1.slots := by show slots ≤ 14679; omega
  have hcc1 : cells + 1 ≤ room_1.cells := by show cells + 1 ≤ 1081; omega
  have hss6 : slots + 6 ≤ room_1.slots := by show slots + 6 ≤ 14679; omega
  unfold wLaw at hP hD
  obtain ⟨r, g', z', v', h', o', u', rM, rK, hRM, hRK, hMM, hMK, hREL⟩ := hR
  · refine lv_aload_n hx hb d_L_law_763 rfl (lv_at hl 1 rfl) ?_
    refine lv_aload_n hx hb d_L_law_764 rfl (lv_at hl 0 rfl) ?_
    refine lv_iload hx hb d_L_law_765 (lv_at hl 4 rfl) ?_
    refine lv_iconst (v := 1) hx hb d_L_law_767 (by decide) ?_
    refine lv_iadd hx hb d_L_law_768 ?_
    refine W.eq (congrArg (fun z => F0 m 769 ls (.int z :: [.ref b, .ref (ad 0)])) (show ((nI i) + 1) = (nI (i + 1)) from nI_add i 1)) ?_
    refine q_sld hx hb hX hbl hbA hS (i + 1) (by omega) (by omega) d_L_law_769 ?_
    refine lv_aload_n hx hb d_L_law_770 rfl (lv_at hl 0 rfl) ?_
    refine lv_iload hx hb d_L_law_771 (lv_at hl 4 rfl) ?_
    refine lv_iconst (v := 2) hx hb d_L_law_773 (by decide) ?_
    refine lv_iadd hx hb d_L_law_774 ?_
    refine W.eq (congrArg (fun z => F0 m 775 ls (.int z :: [.ref b, .int (xs (i + 1)), .ref (ad 0)])) (show ((nI i) + 2) = (nI (i + 2)) from nI_add i 2)) ?_
    refine q_sld hx hb hX hbl hbA hS (i + 2) (by omega) (by omega) d_L_law_775 ?_
    have hP9 : va_P D classes ((wK an kn h o u ++ wO oa ko fo) ++ wA ad kd g z v) H := by rw [List.append_assoc]; exact hP
    have hD9 : va_D (LA s) ((wK an kn h o u ++ wO oa ko fo) ++ wA ad kd g z v) := by rw [List.append_assoc]; exact hD
    refine wrVF (As := [.int (xs (i + 1)), .int (xs (i + 2))]) (rest := []) (b := ad 0) ⟨hx, hb, hml, hown, htb⟩ hMM (cwV (C := R_M) 2 htb (gV tb_good mw_234 mw_235 mw_236 mw_27 mw_237) rfl hRM.1 hRM.2.1 (by decide +kernel) ⟨hRM.2.2.1, hRM.2.2.2⟩) (va_P_r hP9) (va_P_l hP9) hD9 (w' := wA ad kd g' z' v') rfl hKA hS hA (va_recv hKA (va_P_r hP9) (ci := 0) (q0 := 0) rfl rfl) rfl hl.1 rfl (lv_room (Nat.le_of_ble_eq_true rfl)) d_L_law_776 ⟨hcc, hss⟩ (fun H locs hPa hPr hD hS => ?_)
    rw [List.append_assoc] at hD
    have hPk := va_P_l hPr
    have hP1 := (va_P_r hPr).app hPa
    refine lv_aload_n hx hb d_L_law_779 rfl (lv_at hl 2 rfl) ?_
    refine lv_aload_n hx hb d_L_law_780 rfl (lv_at hl 0 rfl) ?_
    refine lv_iload hx hb d_L_law_781 (lv_at hl 4 rfl) ?_
    refine lv_iconst (v := 1) hx hb d_L_law_783 (by decide) ?_
    refine lv_iadd hx hb d_L_law_784 ?_
    refine W.eq (congrArg (fun z => F0 m 785 ls (.int z :: [.ref b, .ref (an 0), .int r])) (show ((nI i) + 1) = (nI (i + 1)) from nI_add i 1)) ?_
    refine q_sld hx hb hX hbl hbA hS (i + 1) (by omega) (by omega) d_L_law_785 ?_
    refine lv_aload_n hx hb d_L_law_786 rfl (lv_at hl 0 rfl) ?_
    refine lv_iload hx hb d_L_law_787 (lv_at hl 4 rfl) ?_
    refine lv_iconst (v := 2) hx hb d_L_law_789 (by decide) ?_
    refine lv_iadd hx hb d_L_law_790 ?_
    refine W.eq (congrArg (fun z => F0 m 791 ls (.int z :: [.ref b, .int (xs (i + 1)), .ref (an 0), .int r])) (show ((nI i) + 2) = (nI (i + 2)) from nI_add i 2)) ?_
    refine q_sld hx hb hX hbl hbA hS (i + 2) (by omega) (by omega) d_L_law_791 ?_
    refine wrVF (As := [.int (xs (i + 1)), .int (xs (i + 2))]) (rest := [.int r]) (b := an 0) ⟨hx, hb, hml, hown, htb⟩ hMK (cwV (C := R_K) 2 htb (gV tb_good mw_765 mw_766 mw_767 mw_31 mw_768) rfl hRK.1 hRK.2.1 (by decide +kernel) ⟨hRK.2.2.1, hRK.2.2.2⟩) hPk hP1 (D_swap hD) rfl hKK hS hA (va_recv hKK hPk (ci := 4) (q0 := 0) rfl rfl) rfl hl.1 rfl (lv_room (Nat.le_of_ble_eq_true rfl)) d_L_law_792 ⟨hcc, hss⟩ (fun H locs hPk hP1 hD hS => ?_)
    have hD := D_swap hD
    refine lv_icmp_eq (tgt := 1066) hx hb d_L_law_795 (by decide) (fun c1 => ?_) (fun c1 => ?_)
    · exact kk g' z' v' h' o' u' fo _ _ _ _ _ hREL (hPk.app hP1) hD hS (by omega) (by omega) (lv_sub hl [0, 1, 2, 3, 4] rfl)
    · exact absurd rfl c1
set_option maxHeartbeats 4000000 in
set_option maxRecDepth 100000 in
theorem law_look {REL : RelT} {p : Program} {l : Launch} {e : Env} {s : State} {m : MethodId} {args : Array Value} {below : List Frame} {meth : Method} {c : Code} {Q : State → Prop} {D : va_G} {ad an : Nat → Nat} {kd kn : Nat → ClassId} {oa : Nat} {ko : ClassId} {b L i C S : Nat} {xs : Nat → Int32} {g : Nat → Nat → Int32} {z : Nat → Int64} {v : Nat → Int32} {h : Nat → Nat → Int32} {o : Nat → Bool} {u : Nat → Int32} {fo : Nat → Int64} {H : Heap} {locs : List Loc} {cells slots : Nat} {ls : Array Slot}
    (F : LF p l s m args c D kd kn ko b L xs) (hi : i + 4 ≤ L) (hR : RETS REL l D ad an kd kn g z v h o u y_L_look b_L_look 5 [(0, 10, 13, 39)] y_K_look b_K_look 4 [.int (xs (i + 1)), .int (xs (i + 2))])
    (hP : va_P D classes (wLaw ad an kd kn oa ko g z v h o u fo) H) (hD : va_D (LA s) (wLaw ad an kd kn oa ko g z v h o u fo)) (hS : va_S (LA s) s.heap H locs) (hc : cells + 1 ≤ C) (hs : slots + 6 ≤ S) (hC : C ≤ 1081) (hSS : S ≤ 14679)
    (kk : GO REL p l e s m args below meth c Q D ad an kd kn oa ko b i C S) (hl : lv_has ls 7 [(0, .ref b), (1, .ref (ad 0)), (2, .ref (an 0)), (3, .ref oa), (4, .int (nI i))]) :
    W p l e room_1 s m args below meth c H locs cells slots Q (F0 m 800 ls []) := by
  obtain ⟨hx, hb, hml, hown, htb, hX, hbl, hKA, hKK, hKO, -, hL⟩ := id F
  have hbA : ¬ LA s b := Nat.not_le.mpr hbl
  have hA : ∀ q : Nat, s.heap.size ≤ q → LA s q := fun _ h => h
  have hcc : cells ≤ room_1.cells := by show cells ≤ 1081; omega
  have hss : slots ≤ room_1.slots := by show slots ≤ 14679; omega
  have hcc1 : cells + 1 ≤ room_1.cells := by show cells + 1 ≤ 1081; omega
  have hss6 : slots + 6 ≤ room_1.slots := by show slots + 6 ≤ 14679; omega
  unfold wLaw at hP hD
  rcases hR with ⟨r, g', z', v', h', o', u', rL, rK, hRL, hRK, hML, hMK, hu0, hREL⟩ | ⟨k, r, rL, rK, hRL, hRK, hML, hMK, hk0, hREL⟩
  · refine lv_aload_n hx hb d_L_law_800 rfl (lv_at hl 1 rfl) ?_
    refine lv_aload_n hx hb d_L_law_801 rfl (lv_at hl 0 rfl) ?_
    refine lv_iload hx hb d_L_law_802 (lv_at hl 4 rfl) ?_
    refine lv_iconst (v := 1) hx hb d_L_law_804 (by decide) ?_
    refine lv_iadd hx hb d_L_law_805 ?_
    refine W.eq (congrArg (fun z => F0 m 806 ls (.int z :: [.ref b, .ref (ad 0)])) (show ((nI i) + 1) = (nI (i + 1)) from nI_add i 1)) ?_
    refine q_sld hx hb hX hbl hbA hS (i + 1) (by omega) (by omega) d_L_law_806 ?_
    refine lv_aload_n hx hb d_L_law_807 rfl (lv_at hl 0 rfl) ?_
    refine lv_iload hx hb d_L_law_808 (lv_at hl 4 rfl) ?_
    refine lv_iconst (v := 2) hx hb d_L_law_810 (by decide) ?_
    refine lv_iadd hx hb d_L_law_811 ?_
    refine W.eq (congrArg (fun z => F0 m 812 ls (.int z :: [.ref b, .int (xs (i + 1)), .ref (ad 0)])) (show ((nI i) + 2) = (nI (i + 2)) from nI_add i 2)) ?_
    refine q_sld hx hb hX hbl hbA hS (i + 2) (by omega) (by omega) d_L_law_812 ?_
    refine lv_aload_n hx hb d_L_law_813 rfl (lv_at hl 3 rfl) ?_
    refine wrSW (As := [.ref (ad 0), .int (xs (i + 1)), .int (xs (i + 2)), .ref oa]) (rest := []) ⟨hx, hb, hml, hown, htb⟩ (hML oa ko fo) (cwSW 4 htb mw_505 mw_506 mw_26 mw_507 hRL.1 hRL.2.1 (by decide +kernel) ⟨hRL.2.2.1, hRL.2.2.2⟩) (va_P_r hP) (va_P_l hP) hD rfl (hKO.app hKA) hS hA rfl hl.1 rfl (lv_room (Nat.le_of_ble_eq_true rfl)) d_L_law_814 ⟨hcc, hss⟩ (fun H locs hP1 hPk hD hS => ?_)
    refine lv_istore (lv' := [(5, .int 0), (0, .ref b), (1, .ref (ad 0)), (2, .ref (an 0)), (3, .ref oa), (4, .int (nI i))]) hx hb d_L_law_817 hl (by decide) rfl (fun ls hl => ?_)
    refine lv_aload_n hx hb d_L_law_819 rfl (lv_at hl 3 rfl) ?_
    refine lv_aload_n hx hb d_L_law_820 rfl (lv_at hl 1 rfl) ?_
    refine lv_iload hx hb d_L_law_821 (lv_at hl 5 rfl) ?_
    refine lv_iconst (v := 1) hx hb d_L_law_823 (by decide) ?_
    refine lv_iadd hx hb d_L_law_824 ?_
    refine W.eq (congrArg (fun z => F0 m 825 ls (.int z :: [.ref b, .ref (an 0)])) (show ((nI i) + 1) = (nI (i + 1)) from nI_add i 1)) ?_
    refine q_sld hx hb hX hbl hbA hS (i + 1) (by omega) (by omega) d_L_law_825 ?_
    refine lv_aload_n hx hb d_L_law_826 rfl (lv_at hl 1 rfl) ?_
    refine lv_iload hx hb d_L_law_827 (lv_at hl 5 rfl) ?_
    refine lv_iconst (v := 2) hx hb d_L_law_829 (by decide) ?_
    refine lv_iadd hx hb d_L_law_830 ?_
    refine W.eq (congrArg (fun z => F0 m 831 ls (.int z :: [.ref b, .int (xs (i + 1)), .ref (an 0)])) (show ((nI i) + 2) = (nI (i + 2)) from nI_add i 2)) ?_
    refine q_sld hx hb hX hbl hbA hS (i + 2) (by omega) (by omega) d_L_law_831 ?_
    refine wrVF (As := [.int (xs (i + 1)), .int (xs (i + 2))]) (rest := []) (b := an 0) ⟨hx, hb, hml, hown, htb⟩ hMK (cwV (C := R_K) 2 htb (gV tb_good mw_777 mw_778 mw_779 mw_31 mw_780) rfl hRK.1 hRK.2.1 (by decide +kernel) ⟨hRK.2.2.1, hRK.2.2.2⟩) hPk hP1 (D_swap hD) rfl hKK hS hA (va_recv hKK hPk (ci := 4) (q0 := 0) rfl rfl) rfl hl.1 rfl (lv_room (Nat.le_of_ble_eq_true rfl)) d_L_law_832 ⟨hcc, hss⟩ (fun H locs hPk hP1 hD hS => ?_)
    have hD := D_swap hD
    refine lv_istore (lv' := [(6, .int r), (5, .int 0), (0, .ref b), (1, .ref (ad 0)), (2, .ref (an 0)), (3, .ref oa), (4, .int (nI i))]) hx hb d_L_law_835 hl (by decide) rfl (fun ls hl => ?_)
    refine lv_aload_n hx hb d_L_law_837 rfl (lv_at hl 4 rfl) ?_
    refine rdV (As := []) (rest := []) (b := an 0) ⟨hx, hb, hml, hown, htb⟩ (c_K_thrown l D an kn h' o' u') (cwV (C := R_K) 0 htb (gV tb_good mw_664 mw_665 mw_666 mw_31 mw_667) rfl rfl rfl (by decide +kernel) ⟨Nat.le_of_ble_eq_true rfl, Nat.le_of_ble_eq_true rfl⟩) hPk hKK (va_recv hKK hPk (ci := 4) (q0 := 0) rfl rfl) rfl hl.1 rfl (lv_room (Nat.le_of_ble_eq_true rfl)) d_L_law_838 ⟨hcc, hss⟩ ?_
    refine W.eq (congrArg (fun z => F0 m 841 ls (.int z :: [])) (show (u' 0) = 0 from hu0)) ?_
    refine lv_iload hx hb d_L_law_841 (lv_at hl 1 rfl) ?_
    refine lv_icmp_eq (tgt := 848) hx hb d_L_law_843 (by decide) (fun c1 => ?_) (fun c1 => ?_)
    · refine lv_iload hx hb d_L_law_848 (lv_at hl 1 rfl) ?_
      refine lv_if_ne (tgt := 865) hx hb d_L_law_850 (by decide) (fun c2 => ?_) (fun c2 => ?_)
      · exact absurd c2 (by decide)
      · refine lv_aload_n hx hb d_L_law_853 rfl (lv_at hl 5 rfl) ?_
        refine lv_iconst (v := 0) hx hb d_L_law_854 (by decide) ?_
        refine q_lald hx hb hKO (va_P_l hP1) 0 0 rfl rfl 0 (by decide) (by decide) d_L_law_855 ?_
        refine W.eq (congrArg (fun z => F0 m 856 ls (.long z :: [])) (show (vp_updL fo 0 r.toInt64 0) = r.toInt64 from rfl)) ?_
        refine lv_iload hx hb d_L_law_856 (lv_at hl 0 rfl) ?_
        refine lv_i2l (v := (r).toInt64) hx hb d_L_law_858 rfl ?_
        refine W.lcmp hx hb d_L_law_859 ?_
        refine W.eq (congrArg (fun z => F0 m 860 ls (.int z :: [])) (show (lg_cmp r.toInt64 ((r).toInt64)) = 0 from lgc _)) ?_
        refine lv_if_eq (tgt := 865) hx hb d_L_law_860 (by decide) (fun c3 => ?_) (fun c3 => ?_)
        · refine lv_goto (tgt := 1066) hx hb d_L_law_865 (by decide) ?_
          exact kk g' z' v' h' o' u' (vp_updL fo 0 r.toInt64) _ _ _ _ _ hREL (hPk.app hP1) hD hS (by omega) (by omega) (lv_sub hl [2, 3, 4, 5, 6] rfl)
        · exact absurd c3 (by decide)
    · exact absurd c1 (by decide)
  · refine lv_aload_n hx hb d_L_law_800 rfl (lv_at hl 1 rfl) ?_
    refine lv_aload_n hx hb d_L_law_801 rfl (lv_at hl 0 rfl) ?_
    refine lv_iload hx hb d_L_law_802 (lv_at hl 4 rfl) ?_
    refine lv_iconst (v := 1) hx hb d_L_law_804 (by decide) ?_
    refine lv_iadd hx hb d_L_law_805 ?_
    refine W.eq (congrArg (fun z => F0 m 806 ls (.int z :: [.ref b, .ref (ad 0)])) (show ((nI i) + 1) = (nI (i + 1)) from nI_add i 1)) ?_
    refine q_sld hx hb hX hbl hbA hS (i + 1) (by omega) (by omega) d_L_law_806 ?_
    refine lv_aload_n hx hb d_L_law_807 rfl (lv_at hl 0 rfl) ?_
    refine lv_iload hx hb d_L_law_808 (lv_at hl 4 rfl) ?_
    refine lv_iconst (v := 2) hx hb d_L_law_810 (by decide) ?_
    refine lv_iadd hx hb d_L_law_811 ?_
    refine W.eq (congrArg (fun z => F0 m 812 ls (.int z :: [.ref b, .int (xs (i + 1)), .ref (ad 0)])) (show ((nI i) + 2) = (nI (i + 2)) from nI_add i 2)) ?_
    refine q_sld hx hb hX hbl hbA hS (i + 2) (by omega) (by omega) d_L_law_812 ?_
    refine lv_aload_n hx hb d_L_law_813 rfl (lv_at hl 3 rfl) ?_
    refine wtSW (As := [.ref (ad 0), .int (xs (i + 1)), .int (xs (i + 2)), .ref oa]) (rest := []) ⟨hx, hb, hml, hown, htb⟩ (hML oa) (cwSW 4 htb mw_505 mw_506 mw_26 mw_507 hRL.1 hRL.2.1 (by decide +kernel) ⟨hRL.2.2.1, hRL.2.2.2⟩) (va_P_r (va_P_r hP)) hKA (F.xg hS) hS hA rfl hl.1 rfl (lv_room (Nat.le_of_ble_eq_true rfl)) d_L_law_814 ⟨hcc1, hss6⟩ (fun H locs hz hk hS => ?_)
    have hP := hP.kept (fun k q hq => hk q.1 (hP k q hq).lt)
    have hP1 := va_P_r hP
    have hPk := va_P_l hP
    refine lv_istore (lv' := [(5, .int k), (0, .ref b), (1, .ref (ad 0)), (2, .ref (an 0)), (3, .ref oa), (4, .int (nI i))]) hx hb d_L_law_817 hl (by decide) rfl (fun ls hl => ?_)
    refine lv_aload_n hx hb d_L_law_819 rfl (lv_at hl 3 rfl) ?_
    refine lv_aload_n hx hb d_L_law_820 rfl (lv_at hl 1 rfl) ?_
    refine lv_iload hx hb d_L_law_821 (lv_at hl 5 rfl) ?_
    refine lv_iconst (v := 1) hx hb d_L_law_823 (by decide) ?_
    refine lv_iadd hx hb d_L_law_824 ?_
    refine W.eq (congrArg (fun z => F0 m 825 ls (.int z :: [.ref b, .ref (an 0)])) (show ((nI i) + 1) = (nI (i + 1)) from nI_add i 1)) ?_
    refine q_sld hx hb hX hbl hbA hS (i + 1) (by omega) (by omega) d_L_law_825 ?_
    refine lv_aload_n hx hb d_L_law_826 rfl (lv_at hl 1 rfl) ?_
    refine lv_iload hx hb d_L_law_827 (lv_at hl 5 rfl) ?_
    refine lv_iconst (v := 2) hx hb d_L_law_829 (by decide) ?_
    refine lv_iadd hx hb d_L_law_830 ?_
    refine W.eq (congrArg (fun z => F0 m 831 ls (.int z :: [.ref b, .int (xs (i + 1)), .ref (an 0)])) (show ((nI i) + 2) = (nI (i + 2)) from nI_add i 2)) ?_
    refine q_sld hx hb hX hbl hbA hS (i + 2) (by omega) (by omega) d_L_law_831 ?_
    refine wrVF (As := [.int (xs (i + 1)), .int (xs (i + 2))]) (rest := []) (b := an 0) ⟨hx, hb, hml, hown, htb⟩ hMK (cwV (C := R_K) 2 htb (gV tb_good mw_777 mw_778 mw_779 mw_31 mw_780) rfl hRK.1 hRK.2.1 (by decide +kernel) ⟨hRK.2.2.1, hRK.2.2.2⟩) hPk hP1 (D_swap hD) rfl hKK hS hA (va_recv hKK hPk (ci := 4) (q0 := 0) rfl rfl) rfl hl.1 rfl (lv_room (Nat.le_of_ble_eq_true rfl)) d_L_law_832 ⟨hcc1, hss6⟩ (fun H locs hPk hP1 hD hS => ?_)
    have hD := D_swap hD
    refine lv_istore (lv' := [(6, .int r), (5, .int k), (0, .ref b), (1, .ref (ad 0)), (2, .ref (an 0)), (3, .ref oa), (4, .int (nI i))]) hx hb d_L_law_835 hl (by decide) rfl (fun ls hl => ?_)
    refine lv_aload_n hx hb d_L_law_837 rfl (lv_at hl 4 rfl) ?_
    refine rdV (As := []) (rest := []) (b := an 0) ⟨hx, hb, hml, hown, htb⟩ (c_K_thrown l D an kn h o (upd u 0 k)) (cwV (C := R_K) 0 htb (gV tb_good mw_664 mw_665 mw_666 mw_31 mw_667) rfl rfl rfl (by decide +kernel) ⟨Nat.le_of_ble_eq_true rfl, Nat.le_of_ble_eq_true rfl⟩) hPk hKK (va_recv hKK hPk (ci := 4) (q0 := 0) rfl rfl) rfl hl.1 rfl (lv_room (Nat.le_of_ble_eq_true rfl)) d_L_law_838 ⟨hcc1, hss6⟩ ?_
    refine W.eq (congrArg (fun z => F0 m 841 ls (.int z :: [])) (show (upd u 0 k 0) = k from rfl)) ?_
    refine lv_iload hx hb d_L_law_841 (lv_at hl 1 rfl) ?_
    refine lv_icmp_eq (tgt := 848) hx hb d_L_law_843 (by decide) (fun c1 => ?_) (fun c1 => ?_)
    · refine lv_iload hx hb d_L_law_848 (lv_at hl 1 rfl) ?_
      refine lv_if_ne (tgt := 865) hx hb d_L_law_850 (by decide) (fun c2 => ?_) (fun c2 => ?_)
      · refine lv_goto (tgt := 1066) hx hb d_L_law_865 (by decide) ?_
        exact kk g z v h o (upd u 0 k) fo _ _ _ _ _ hREL (hPk.app hP1) hD hS (by omega) (by omega) (lv_sub hl [2, 3, 4, 5, 6] rfl)
      · exact absurd c2 hk0
    · exact absurd rfl c1
set_option maxHeartbeats 4000000 in
set_option maxRecDepth 100000 in
theorem law_seen {REL : RelT} {p : Program} {l : Launch} {e : Env} {s : State} {m : MethodId} {args : Array Value} {below : List Frame} {meth : Method} {c : Code} {Q : State → Prop} {D : va_G} {ad an : Nat → Nat} {kd kn : Nat → ClassId} {oa : Nat} {ko : ClassId} {b L i C S : Nat} {xs : Nat → Int32} {g : Nat → Nat → Int32} {z : Nat → Int64} {v : Nat → Int32} {h : Nat → Nat → Int32} {o : Nat → Bool} {u : Nat → Int32} {fo : Nat → Int64} {H : Heap} {locs : List Loc} {cells slots : Nat} {ls : Array Slot}
    (F : LF p l s m args c D kd kn ko b L xs) (hi : i + 4 ≤ L) (hR : RETS REL l D ad an kd kn g z v h o u y_L_seen b_L_seen 5 [(0, 10, 13, 39), (0, 10, 17, 44)] y_K_seen b_K_seen 6 [.int (xs (i + 1)), .int (xs (i + 2))])
    (hP : va_P D classes (wLaw ad an kd kn oa ko g z v h o u fo) H) (hD : va_D (LA s) (wLaw ad an kd kn oa ko g z v h o u fo)) (hS : va_S (LA s) s.heap H locs) (hc : cells + 1 ≤ C) (hs : slots + 6 ≤ S) (hC : C ≤ 1081) (hSS : S ≤ 14679)
    (kk : GO REL p l e s m args below meth c Q D ad an kd kn oa ko b i C S) (hl : lv_has ls 7 [(0, .ref b), (1, .ref (ad 0)), (2, .ref (an 0)), (3, .ref oa), (4, .int (nI i))]) :
    W p l e room_1 s m args below meth c H locs cells slots Q (F0 m 868 ls []) := by
  obtain ⟨hx, hb, hml, hown, htb, hX, hbl, hKA, hKK, hKO, -, hL⟩ := id F
  have hbA : ¬ LA s b := Nat.not_le.mpr hbl
  have hA : ∀ q : Nat, s.heap.size ≤ q → LA s q := fun _ h => h
  have hcc : cells ≤ room_1.cells := by show cells ≤ 1081; omega
  have hss : slots ≤ room_1.slots := by show slots ≤ 14679; omega
  have hcc1 : cells + 1 ≤ room_1.cells := by show cells + 1 ≤ 1081; omega
  have hss6 : slots + 6 ≤ room_1.slots := by show slots + 6 ≤ 14679; omega
  unfold wLaw at hP hD
  rcases hR with ⟨r, g', z', v', h', o', u', rL, rK, hRL, hRK, hML, hMK, hu0, hREL⟩ | ⟨k, r, rL, rK, hRL, hRK, hML, hMK, hk0, hREL⟩
  · refine lv_aload_n hx hb d_L_law_868 rfl (lv_at hl 1 rfl) ?_
    refine lv_aload_n hx hb d_L_law_869 rfl (lv_at hl 0 rfl) ?_
    refine lv_iload hx hb d_L_law_870 (lv_at hl 4 rfl) ?_
    refine lv_iconst (v := 1) hx hb d_L_law_872 (by decide) ?_
    refine lv_iadd hx hb d_L_law_873 ?_
    refine W.eq (congrArg (fun z => F0 m 874 ls (.int z :: [.ref b, .ref (ad 0)])) (show ((nI i) + 1) = (nI (i + 1)) from nI_add i 1)) ?_
    refine q_sld hx hb hX hbl hbA hS (i + 1) (by omega) (by omega) d_L_law_874 ?_
    refine lv_aload_n hx hb d_L_law_875 rfl (lv_at hl 0 rfl) ?_
    refine lv_iload hx hb d_L_law_876 (lv_at hl 4 rfl) ?_
    refine lv_iconst (v := 2) hx hb d_L_law_878 (by decide) ?_
    refine lv_iadd hx hb d_L_law_879 ?_
    refine W.eq (congrArg (fun z => F0 m 880 ls (.int z :: [.ref b, .int (xs (i + 1)), .ref (ad 0)])) (show ((nI i) + 2) = (nI (i + 2)) from nI_add i 2)) ?_
    refine q_sld hx hb hX hbl hbA hS (i + 2) (by omega) (by omega) d_L_law_880 ?_
    refine lv_aload_n hx hb d_L_law_881 rfl (lv_at hl 3 rfl) ?_
    refine wrSW (As := [.ref (ad 0), .int (xs (i + 1)), .int (xs (i + 2)), .ref oa]) (rest := []) ⟨hx, hb, hml, hown, htb⟩ (hML oa ko fo) (cwSW 4 htb mw_547 mw_548 mw_26 mw_549 hRL.1 hRL.2.1 (by decide +kernel) ⟨hRL.2.2.1, hRL.2.2.2⟩) (va_P_r hP) (va_P_l hP) hD rfl (hKO.app hKA) hS hA rfl hl.1 rfl (lv_room (Nat.le_of_ble_eq_true rfl)) d_L_law_882 ⟨hcc, hss⟩ (fun H locs hP1 hPk hD hS => ?_)
    refine lv_istore (lv' := [(5, .int 0), (0, .ref b), (1, .ref (ad 0)), (2, .ref (an 0)), (3, .ref oa), (4, .int (nI i))]) hx hb d_L_law_885 hl (by decide) rfl (fun ls hl => ?_)
    refine lv_aload_n hx hb d_L_law_887 rfl (lv_at hl 3 rfl) ?_
    refine lv_aload_n hx hb d_L_law_888 rfl (lv_at hl 1 rfl) ?_
    refine lv_iload hx hb d_L_law_889 (lv_at hl 5 rfl) ?_
    refine lv_iconst (v := 1) hx hb d_L_law_891 (by decide) ?_
    refine lv_iadd hx hb d_L_law_892 ?_
    refine W.eq (congrArg (fun z => F0 m 893 ls (.int z :: [.ref b, .ref (an 0)])) (show ((nI i) + 1) = (nI (i + 1)) from nI_add i 1)) ?_
    refine q_sld hx hb hX hbl hbA hS (i + 1) (by omega) (by omega) d_L_law_893 ?_
    refine lv_aload_n hx hb d_L_law_894 rfl (lv_at hl 1 rfl) ?_
    refine lv_iload hx hb d_L_law_895 (lv_at hl 5 rfl) ?_
    refine lv_iconst (v := 2) hx hb d_L_law_897 (by decide) ?_
    refine lv_iadd hx hb d_L_law_898 ?_
    refine W.eq (congrArg (fun z => F0 m 899 ls (.int z :: [.ref b, .int (xs (i + 1)), .ref (an 0)])) (show ((nI i) + 2) = (nI (i + 2)) from nI_add i 2)) ?_
    refine q_sld hx hb hX hbl hbA hS (i + 2) (by omega) (by omega) d_L_law_899 ?_
    refine wrVF (As := [.int (xs (i + 1)), .int (xs (i + 2))]) (rest := []) (b := an 0) ⟨hx, hb, hml, hown, htb⟩ hMK (cwV (C := R_K) 2 htb (gV tb_good mw_801 mw_802 mw_803 mw_31 mw_804) rfl hRK.1 hRK.2.1 (by decide +kernel) ⟨hRK.2.2.1, hRK.2.2.2⟩) hPk hP1 (D_swap hD) rfl hKK hS hA (va_recv hKK hPk (ci := 4) (q0 := 0) rfl rfl) rfl hl.1 rfl (lv_room (Nat.le_of_ble_eq_true rfl)) d_L_law_900 ⟨hcc, hss⟩ (fun H locs hPk hP1 hD hS => ?_)
    have hD := D_swap hD
    refine lv_istore (lv' := [(6, .int r), (5, .int 0), (0, .ref b), (1, .ref (ad 0)), (2, .ref (an 0)), (3, .ref oa), (4, .int (nI i))]) hx hb d_L_law_903 hl (by decide) rfl (fun ls hl => ?_)
    refine lv_aload_n hx hb d_L_law_905 rfl (lv_at hl 4 rfl) ?_
    refine rdV (As := []) (rest := []) (b := an 0) ⟨hx, hb, hml, hown, htb⟩ (c_K_thrown l D an kn h' o' u') (cwV (C := R_K) 0 htb (gV tb_good mw_664 mw_665 mw_666 mw_31 mw_667) rfl rfl rfl (by decide +kernel) ⟨Nat.le_of_ble_eq_true rfl, Nat.le_of_ble_eq_true rfl⟩) hPk hKK (va_recv hKK hPk (ci := 4) (q0 := 0) rfl rfl) rfl hl.1 rfl (lv_room (Nat.le_of_ble_eq_true rfl)) d_L_law_906 ⟨hcc, hss⟩ ?_
    refine W.eq (congrArg (fun z => F0 m 909 ls (.int z :: [])) (show (u' 0) = 0 from hu0)) ?_
    refine lv_iload hx hb d_L_law_909 (lv_at hl 1 rfl) ?_
    refine lv_icmp_eq (tgt := 916) hx hb d_L_law_911 (by decide) (fun c1 => ?_) (fun c1 => ?_)
    · refine lv_iload hx hb d_L_law_916 (lv_at hl 1 rfl) ?_
      refine lv_if_ne (tgt := 933) hx hb d_L_law_918 (by decide) (fun c2 => ?_) (fun c2 => ?_)
      · exact absurd c2 (by decide)
      · refine lv_aload_n hx hb d_L_law_921 rfl (lv_at hl 5 rfl) ?_
        refine lv_iconst (v := 0) hx hb d_L_law_922 (by decide) ?_
        refine q_lald hx hb hKO (va_P_l hP1) 0 0 rfl rfl 0 (by decide) (by decide) d_L_law_923 ?_
        refine W.eq (congrArg (fun z => F0 m 924 ls (.long z :: [])) (show (vp_updL fo 0 r.toInt64 0) = r.toInt64 from rfl)) ?_
        refine lv_iload hx hb d_L_law_924 (lv_at hl 0 rfl) ?_
        refine lv_i2l (v := (r).toInt64) hx hb d_L_law_926 rfl ?_
        refine W.lcmp hx hb d_L_law_927 ?_
        refine W.eq (congrArg (fun z => F0 m 928 ls (.int z :: [])) (show (lg_cmp r.toInt64 ((r).toInt64)) = 0 from lgc _)) ?_
        refine lv_if_eq (tgt := 933) hx hb d_L_law_928 (by decide) (fun c3 => ?_) (fun c3 => ?_)
        · refine lv_goto (tgt := 1066) hx hb d_L_law_933 (by decide) ?_
          exact kk g' z' v' h' o' u' (vp_updL fo 0 r.toInt64) _ _ _ _ _ hREL (hPk.app hP1) hD hS (by omega) (by omega) (lv_sub hl [2, 3, 4, 5, 6] rfl)
        · exact absurd c3 (by decide)
    · exact absurd c1 (by decide)
  · refine lv_aload_n hx hb d_L_law_868 rfl (lv_at hl 1 rfl) ?_
    refine lv_aload_n hx hb d_L_law_869 rfl (lv_at hl 0 rfl) ?_
    refine lv_iload hx hb d_L_law_870 (lv_at hl 4 rfl) ?_
    refine lv_iconst (v := 1) hx hb d_L_law_872 (by decide) ?_
    refine lv_iadd hx hb d_L_law_873 ?_
    refine W.eq (congrArg (fun z => F0 m 874 ls (.int z :: [.ref b, .ref (ad 0)])) (show ((nI i) + 1) = (nI (i + 1)) from nI_add i 1)) ?_
    refine q_sld hx hb hX hbl hbA hS (i + 1) (by omega) (by omega) d_L_law_874 ?_
    refine lv_aload_n hx hb d_L_law_875 rfl (lv_at hl 0 rfl) ?_
    refine lv_iload hx hb d_L_law_876 (lv_at hl 4 rfl) ?_
    refine lv_iconst (v := 2) hx hb d_L_law_878 (by decide) ?_
    refine lv_iadd hx hb d_L_law_879 ?_
    refine W.eq (congrArg (fun z => F0 m 880 ls (.int z :: [.ref b, .int (xs (i + 1)), .ref (ad 0)])) (show ((nI i) + 2) = (nI (i + 2)) from nI_add i 2)) ?_
    refine q_sld hx hb hX hbl hbA hS (i + 2) (by omega) (by omega) d_L_law_880 ?_
    refine lv_aload_n hx hb d_L_law_881 rfl (lv_at hl 3 rfl) ?_
    refine wtSW (As := [.ref (ad 0), .int (xs (i + 1)), .int (xs (i + 2)), .ref oa]) (rest := []) ⟨hx, hb, hml, hown, htb⟩ (hML oa) (cwSW 4 htb mw_547 mw_548 mw_26 mw_549 hRL.1 hRL.2.1 (by decide +kernel) ⟨hRL.2.2.1, hRL.2.2.2⟩) (va_P_r (va_P_r hP)) hKA (F.xg hS) hS hA rfl hl.1 rfl (lv_room (Nat.le_of_ble_eq_true rfl)) d_L_law_882 ⟨hcc1, hss6⟩ (fun H locs hz hk hS => ?_)
    have hP := hP.kept (fun k q hq => hk q.1 (hP k q hq).lt)
    have hP1 := va_P_r hP
    have hPk := va_P_l hP
    refine lv_istore (lv' := [(5, .int k), (0, .ref b), (1, .ref (ad 0)), (2, .ref (an 0)), (3, .ref oa), (4, .int (nI i))]) hx hb d_L_law_885 hl (by decide) rfl (fun ls hl => ?_)
    refine lv_aload_n hx hb d_L_law_887 rfl (lv_at hl 3 rfl) ?_
    refine lv_aload_n hx hb d_L_law_888 rfl (lv_at hl 1 rfl) ?_
    refine lv_iload hx hb d_L_law_889 (lv_at hl 5 rfl) ?_
    refine lv_iconst (v := 1) hx hb d_L_law_891 (by decide) ?_
    refine lv_iadd hx hb d_L_law_892 ?_
    refine W.eq (congrArg (fun z => F0 m 893 ls (.int z :: [.ref b, .ref (an 0)])) (show ((nI i) + 1) = (nI (i + 1)) from nI_add i 1)) ?_
    refine q_sld hx hb hX hbl hbA hS (i + 1) (by omega) (by omega) d_L_law_893 ?_
    refine lv_aload_n hx hb d_L_law_894 rfl (lv_at hl 1 rfl) ?_
    refine lv_iload hx hb d_L_law_895 (lv_at hl 5 rfl) ?_
    refine lv_iconst (v := 2) hx hb d_L_law_897 (by decide) ?_
    refine lv_iadd hx hb d_L_law_898 ?_
    refine W.eq (congrArg (fun z => F0 m 899 ls (.int z :: [.ref b, .int (xs (i + 1)), .ref (an 0)])) (show ((nI i) + 2) = (nI (i + 2)) from nI_add i 2)) ?_
    refine q_sld hx hb hX hbl hbA hS (i + 2) (by omega) (by omega) d_L_law_899 ?_
    refine wrVF (As := [.int (xs (i + 1)), .int (xs (i + 2))]) (rest := []) (b := an 0) ⟨hx, hb, hml, hown, htb⟩ hMK (cwV (C := R_K) 2 htb (gV tb_good mw_801 mw_802 mw_803 mw_31 mw_804) rfl hRK.1 hRK.2.1 (by decide +kernel) ⟨hRK.2.2.1, hRK.2.2.2⟩) hPk hP1 (D_swap hD) rfl hKK hS hA (va_recv hKK hPk (ci := 4) (q0 := 0) rfl rfl) rfl hl.1 rfl (lv_room (Nat.le_of_ble_eq_true rfl)) d_L_law_900 ⟨hcc1, hss6⟩ (fun H locs hPk hP1 hD hS => ?_)
    have hD := D_swap hD
    refine lv_istore (lv' := [(6, .int r), (5, .int k), (0, .ref b), (1, .ref (ad 0)), (2, .ref (an 0)), (3, .ref oa), (4, .int (nI i))]) hx hb d_L_law_903 hl (by decide) rfl (fun ls hl => ?_)
    refine lv_aload_n hx hb d_L_law_905 rfl (lv_at hl 4 rfl) ?_
    refine rdV (As := []) (rest := []) (b := an 0) ⟨hx, hb, hml, hown, htb⟩ (c_K_thrown l D an kn h o (upd u 0 k)) (cwV (C := R_K) 0 htb (gV tb_good mw_664 mw_665 mw_666 mw_31 mw_667) rfl rfl rfl (by decide +kernel) ⟨Nat.le_of_ble_eq_true rfl, Nat.le_of_ble_eq_true rfl⟩) hPk hKK (va_recv hKK hPk (ci := 4) (q0 := 0) rfl rfl) rfl hl.1 rfl (lv_room (Nat.le_of_ble_eq_true rfl)) d_L_law_906 ⟨hcc1, hss6⟩ ?_
    refine W.eq (congrArg (fun z => F0 m 909 ls (.int z :: [])) (show (upd u 0 k 0) = k from rfl)) ?_
    refine lv_iload hx hb d_L_law_909 (lv_at hl 1 rfl) ?_
    refine lv_icmp_eq (tgt := 916) hx hb d_L_law_911 (by decide) (fun c1 => ?_) (fun c1 => ?_)
    · refine lv_iload hx hb d_L_law_916 (lv_at hl 1 rfl) ?_
      refine lv_if_ne (tgt := 933) hx hb d_L_law_918 (by decide) (fun c2 => ?_) (fun c2 => ?_)
      · refine lv_goto (tgt := 1066) hx hb d_L_law_933 (by decide) ?_
        exact kk g z v h o (upd u 0 k) fo _ _ _ _ _ hREL (hPk.app hP1) hD hS (by omega) (by omega) (lv_sub hl [2, 3, 4, 5, 6] rfl)
      · exact absurd c2 hk0
    · exact absurd rfl c1
set_option maxHeartbeats 4000000 in
set_option maxRecDepth 100000 in
theorem law_waits {REL : RelT} {p : Program} {l : Launch} {e : Env} {s : State} {m : MethodId} {args : Array Value} {below : List Frame} {meth : Method} {c : Code} {Q : State → Prop} {D : va_G} {ad an : Nat → Nat} {kd kn : Nat → ClassId} {oa : Nat} {ko : ClassId} {b L i C S : Nat} {xs : Nat → Int32} {g : Nat → Nat → Int32} {z : Nat → Int64} {v : Nat → Int32} {h : Nat → Nat → Int32} {o : Nat → Bool} {u : Nat → Int32} {fo : Nat → Int64} {H : Heap} {locs : List Loc} {cells slots : Nat} {ls : Array Slot}
    (F : LF p l s m args c D kd kn ko b L xs) (hi : i + 4 ≤ L) (hR : BOTH REL l D ad an kd kn g z v h o u y_M_waits b_M_waits 4 y_K_waits b_K_waits 4 .int [.int (xs (i + 1))])
    (hP : va_P D classes (wLaw ad an kd kn oa ko g z v h o u fo) H) (hD : va_D (LA s) (wLaw ad an kd kn oa ko g z v h o u fo)) (hS : va_S (LA s) s.heap H locs) (hc : cells + 1 ≤ C) (hs : slots + 6 ≤ S) (hC : C ≤ 1081) (hSS : S ≤ 14679)
    (kk : GO REL p l e s m args below meth c Q D ad an kd kn oa ko b i C S) (hl : lv_has ls 7 [(0, .ref b), (1, .ref (ad 0)), (2, .ref (an 0)), (3, .ref oa), (4, .int (nI i))]) :
    W p l e room_1 s m args below meth c H locs cells slots Q (F0 m 936 ls []) := by
  obtain ⟨hx, hb, hml, hown, htb, hX, hbl, hKA, hKK, hKO, -, hL⟩ := id F
  have hbA : ¬ LA s b := Nat.not_le.mpr hbl
  have hA : ∀ q : Nat, s.heap.size ≤ q → LA s q := fun _ h => h
  have hcc : cells ≤ room_1.cells := by show cells ≤ 1081; omega
  have hss : slots ≤ room_1.slots := by show slots ≤ 14679; omega
  have hcc1 : cells + 1 ≤ room_1.cells := by show cells + 1 ≤ 1081; omega
  have hss6 : slots + 6 ≤ room_1.slots := by show slots + 6 ≤ 14679; omega
  unfold wLaw at hP hD
  obtain ⟨r, g', z', v', h', o', u', rM, rK, hRM, hRK, hMM, hMK, hREL⟩ := hR
  · refine lv_aload_n hx hb d_L_law_936 rfl (lv_at hl 1 rfl) ?_
    refine lv_aload_n hx hb d_L_law_937 rfl (lv_at hl 0 rfl) ?_
    refine lv_iload hx hb d_L_law_938 (lv_at hl 4 rfl) ?_
    refine lv_iconst (v := 1) hx hb d_L_law_940 (by decide) ?_
    refine lv_iadd hx hb d_L_law_941 ?_
    refine W.eq (congrArg (fun z => F0 m 942 ls (.int z :: [.ref b, .ref (ad 0)])) (show ((nI i) + 1) = (nI (i + 1)) from nI_add i 1)) ?_
    refine q_sld hx hb hX hbl hbA hS (i + 1) (by omega) (by omega) d_L_law_942 ?_
    have hP9 : va_P D classes ((wK an kn h o u ++ wO oa ko fo) ++ wA ad kd g z v) H := by rw [List.append_assoc]; exact hP
    have hD9 : va_D (LA s) ((wK an kn h o u ++ wO oa ko fo) ++ wA ad kd g z v) := by rw [List.append_assoc]; exact hD
    refine wrVF (As := [.int (xs (i + 1))]) (rest := []) (b := ad 0) ⟨hx, hb, hml, hown, htb⟩ hMM (cwV (C := R_M) 1 htb (gV tb_good mw_243 mw_244 mw_245 mw_27 mw_246) rfl hRM.1 hRM.2.1 (by decide +kernel) ⟨hRM.2.2.1, hRM.2.2.2⟩) (va_P_r hP9) (va_P_l hP9) hD9 (w' := wA ad kd g' z' v') rfl hKA hS hA (va_recv hKA (va_P_r hP9) (ci := 0) (q0 := 0) rfl rfl) rfl hl.1 rfl (lv_room (Nat.le_of_ble_eq_true rfl)) d_L_law_943 ⟨hcc, hss⟩ (fun H locs hPa hPr hD hS => ?_)
    rw [List.append_assoc] at hD
    have hPk := va_P_l hPr
    have hP1 := (va_P_r hPr).app hPa
    refine lv_aload_n hx hb d_L_law_946 rfl (lv_at hl 2 rfl) ?_
    refine lv_aload_n hx hb d_L_law_947 rfl (lv_at hl 0 rfl) ?_
    refine lv_iload hx hb d_L_law_948 (lv_at hl 4 rfl) ?_
    refine lv_iconst (v := 1) hx hb d_L_law_950 (by decide) ?_
    refine lv_iadd hx hb d_L_law_951 ?_
    refine W.eq (congrArg (fun z => F0 m 952 ls (.int z :: [.ref b, .ref (an 0), .int r])) (show ((nI i) + 1) = (nI (i + 1)) from nI_add i 1)) ?_
    refine q_sld hx hb hX hbl hbA hS (i + 1) (by omega) (by omega) d_L_law_952 ?_
    refine wrVF (As := [.int (xs (i + 1))]) (rest := [.int r]) (b := an 0) ⟨hx, hb, hml, hown, htb⟩ hMK (cwV (C := R_K) 1 htb (gV tb_good mw_809 mw_810 mw_811 mw_31 mw_812) rfl hRK.1 hRK.2.1 (by decide +kernel) ⟨hRK.2.2.1, hRK.2.2.2⟩) hPk hP1 (D_swap hD) rfl hKK hS hA (va_recv hKK hPk (ci := 4) (q0 := 0) rfl rfl) rfl hl.1 rfl (lv_room (Nat.le_of_ble_eq_true rfl)) d_L_law_953 ⟨hcc, hss⟩ (fun H locs hPk hP1 hD hS => ?_)
    have hD := D_swap hD
    refine lv_icmp_eq (tgt := 1066) hx hb d_L_law_956 (by decide) (fun c1 => ?_) (fun c1 => ?_)
    · exact kk g' z' v' h' o' u' fo _ _ _ _ _ hREL (hPk.app hP1) hD hS (by omega) (by omega) (lv_sub hl [0, 1, 2, 3, 4] rfl)
    · exact absurd rfl c1
set_option maxHeartbeats 4000000 in
set_option maxRecDepth 100000 in
theorem law_like {REL : RelT} {p : Program} {l : Launch} {e : Env} {s : State} {m : MethodId} {args : Array Value} {below : List Frame} {meth : Method} {c : Code} {Q : State → Prop} {D : va_G} {ad an : Nat → Nat} {kd kn : Nat → ClassId} {oa : Nat} {ko : ClassId} {b L i C S : Nat} {xs : Nat → Int32} {g : Nat → Nat → Int32} {z : Nat → Int64} {v : Nat → Int32} {h : Nat → Nat → Int32} {o : Nat → Bool} {u : Nat → Int32} {fo : Nat → Int64} {H : Heap} {locs : List Loc} {cells slots : Nat} {ls : Array Slot}
    (F : LF p l s m args c D kd kn ko b L xs) (hi : i + 4 ≤ L) (hR : RETS REL l D ad an kd kn g z v h o u y_L_like b_L_like 6 [(0, 12, 15, 13)] y_K_like b_K_like 7 [.int (xs (i + 1)), .int (xs (i + 2)), .int (xs (i + 3))])
    (hP : va_P D classes (wLaw ad an kd kn oa ko g z v h o u fo) H) (hD : va_D (LA s) (wLaw ad an kd kn oa ko g z v h o u fo)) (hS : va_S (LA s) s.heap H locs) (hc : cells + 1 ≤ C) (hs : slots + 6 ≤ S) (hC : C ≤ 1081) (hSS : S ≤ 14679)
    (kk : GO REL p l e s m args below meth c Q D ad an kd kn oa ko b i C S) (hl : lv_has ls 7 [(0, .ref b), (1, .ref (ad 0)), (2, .ref (an 0)), (3, .ref oa), (4, .int (nI i))]) :
    W p l e room_1 s m args below meth c H locs cells slots Q (F0 m 961 ls []) := by
  obtain ⟨hx, hb, hml, hown, htb, hX, hbl, hKA, hKK, hKO, -, hL⟩ := id F
  have hbA : ¬ LA s b := Nat.not_le.mpr hbl
  have hA : ∀ q : Nat, s.heap.size ≤ q → LA s q := fun _ h => h
  have hcc : cells ≤ room_1.cells := by show cells ≤ 1081; omega
  have hss : slots ≤ room_1.slots := by show slots ≤ 14679; omega
  have hcc1 : cells + 1 ≤ room_1.cells := by show cells + 1 ≤ 1081; omega
  have hss6 : slots + 6 ≤ room_1.slots := by show slots + 6 ≤ 14679; omega
  unfold wLaw at hP hD
  rcases hR with ⟨r, g', z', v', h', o', u', rL, rK, hRL, hRK, hML, hMK, hu0, hREL⟩ | ⟨k, r, rL, rK, hRL, hRK, hML, hMK, hk0, hREL⟩
  · refine lv_aload_n hx hb d_L_law_961 rfl (lv_at hl 1 rfl) ?_
    refine lv_aload_n hx hb d_L_law_962 rfl (lv_at hl 0 rfl) ?_
    refine lv_iload hx hb d_L_law_963 (lv_at hl 4 rfl) ?_
    refine lv_iconst (v := 1) hx hb d_L_law_965 (by decide) ?_
    refine lv_iadd hx hb d_L_law_966 ?_
    refine W.eq (congrArg (fun z => F0 m 967 ls (.int z :: [.ref b, .ref (ad 0)])) (show ((nI i) + 1) = (nI (i + 1)) from nI_add i 1)) ?_
    refine q_sld hx hb hX hbl hbA hS (i + 1) (by omega) (by omega) d_L_law_967 ?_
    refine lv_aload_n hx hb d_L_law_968 rfl (lv_at hl 0 rfl) ?_
    refine lv_iload hx hb d_L_law_969 (lv_at hl 4 rfl) ?_
    refine lv_iconst (v := 2) hx hb d_L_law_971 (by decide) ?_
    refine lv_iadd hx hb d_L_law_972 ?_
    refine W.eq (congrArg (fun z => F0 m 973 ls (.int z :: [.ref b, .int (xs (i + 1)), .ref (ad 0)])) (show ((nI i) + 2) = (nI (i + 2)) from nI_add i 2)) ?_
    refine q_sld hx hb hX hbl hbA hS (i + 2) (by omega) (by omega) d_L_law_973 ?_
    refine lv_aload_n hx hb d_L_law_974 rfl (lv_at hl 0 rfl) ?_
    refine lv_iload hx hb d_L_law_975 (lv_at hl 4 rfl) ?_
    refine lv_iconst (v := 3) hx hb d_L_law_977 (by decide) ?_
    refine lv_iadd hx hb d_L_law_978 ?_
    refine W.eq (congrArg (fun z => F0 m 979 ls (.int z :: [.ref b, .int (xs (i + 2)), .int (xs (i + 1)), .ref (ad 0)])) (show ((nI i) + 3) = (nI (i + 3)) from nI_add i 3)) ?_
    refine q_sld hx hb hX hbl hbA hS (i + 3) (by omega) (by omega) d_L_law_979 ?_
    refine lv_aload_n hx hb d_L_law_980 rfl (lv_at hl 3 rfl) ?_
    refine wrSW (As := [.ref (ad 0), .int (xs (i + 1)), .int (xs (i + 2)), .int (xs (i + 3)), .ref oa]) (rest := []) ⟨hx, hb, hml, hown, htb⟩ (hML oa ko fo) (cwSW 5 htb mw_580 mw_581 mw_26 mw_582 hRL.1 hRL.2.1 (by decide +kernel) ⟨hRL.2.2.1, hRL.2.2.2⟩) (va_P_r hP) (va_P_l hP) hD rfl (hKO.app hKA) hS hA rfl hl.1 rfl (lv_room (Nat.le_of_ble_eq_true rfl)) d_L_law_981 ⟨hcc, hss⟩ (fun H locs hP1 hPk hD hS => ?_)
    refine lv_istore (lv' := [(5, .int 0), (0, .ref b), (1, .ref (ad 0)), (2, .ref (an 0)), (3, .ref oa), (4, .int (nI i))]) hx hb d_L_law_984 hl (by decide) rfl (fun ls hl => ?_)
    refine lv_aload_n hx hb d_L_law_986 rfl (lv_at hl 3 rfl) ?_
    refine lv_aload_n hx hb d_L_law_987 rfl (lv_at hl 1 rfl) ?_
    refine lv_iload hx hb d_L_law_988 (lv_at hl 5 rfl) ?_
    refine lv_iconst (v := 1) hx hb d_L_law_990 (by decide) ?_
    refine lv_iadd hx hb d_L_law_991 ?_
    refine W.eq (congrArg (fun z => F0 m 992 ls (.int z :: [.ref b, .ref (an 0)])) (show ((nI i) + 1) = (nI (i + 1)) from nI_add i 1)) ?_
    refine q_sld hx hb hX hbl hbA hS (i + 1) (by omega) (by omega) d_L_law_992 ?_
    refine lv_aload_n hx hb d_L_law_993 rfl (lv_at hl 1 rfl) ?_
    refine lv_iload hx hb d_L_law_994 (lv_at hl 5 rfl) ?_
    refine lv_iconst (v := 2) hx hb d_L_law_996 (by decide) ?_
    refine lv_iadd hx hb d_L_law_997 ?_
    refine W.eq (congrArg (fun z => F0 m 998 ls (.int z :: [.ref b, .int (xs (i + 1)), .ref (an 0)])) (show ((nI i) + 2) = (nI (i + 2)) from nI_add i 2)) ?_
    refine q_sld hx hb hX hbl hbA hS (i + 2) (by omega) (by omega) d_L_law_998 ?_
    refine lv_aload_n hx hb d_L_law_999 rfl (lv_at hl 1 rfl) ?_
    refine lv_iload hx hb d_L_law_1000 (lv_at hl 5 rfl) ?_
    refine lv_iconst (v := 3) hx hb d_L_law_1002 (by decide) ?_
    refine lv_iadd hx hb d_L_law_1003 ?_
    refine W.eq (congrArg (fun z => F0 m 1004 ls (.int z :: [.ref b, .int (xs (i + 2)), .int (xs (i + 1)), .ref (an 0)])) (show ((nI i) + 3) = (nI (i + 3)) from nI_add i 3)) ?_
    refine q_sld hx hb hX hbl hbA hS (i + 3) (by omega) (by omega) d_L_law_1004 ?_
    refine wrVF (As := [.int (xs (i + 1)), .int (xs (i + 2)), .int (xs (i + 3))]) (rest := []) (b := an 0) ⟨hx, hb, hml, hown, htb⟩ hMK (cwV (C := R_K) 3 htb (gV tb_good mw_813 mw_814 mw_815 mw_31 mw_816) rfl hRK.1 hRK.2.1 (by decide +kernel) ⟨hRK.2.2.1, hRK.2.2.2⟩) hPk hP1 (D_swap hD) rfl hKK hS hA (va_recv hKK hPk (ci := 4) (q0 := 0) rfl rfl) rfl hl.1 rfl (lv_room (Nat.le_of_ble_eq_true rfl)) d_L_law_1005 ⟨hcc, hss⟩ (fun H locs hPk hP1 hD hS => ?_)
    have hD := D_swap hD
    refine lv_istore (lv' := [(6, .int r), (5, .int 0), (0, .ref b), (1, .ref (ad 0)), (2, .ref (an 0)), (3, .ref oa), (4, .int (nI i))]) hx hb d_L_law_1008 hl (by decide) rfl (fun ls hl => ?_)
    refine lv_aload_n hx hb d_L_law_1010 rfl (lv_at hl 4 rfl) ?_
    refine rdV (As := []) (rest := []) (b := an 0) ⟨hx, hb, hml, hown, htb⟩ (c_K_thrown l D an kn h' o' u') (cwV (C := R_K) 0 htb (gV tb_good mw_664 mw_665 mw_666 mw_31 mw_667) rfl rfl rfl (by decide +kernel) ⟨Nat.le_of_ble_eq_true rfl, Nat.le_of_ble_eq_true rfl⟩) hPk hKK (va_recv hKK hPk (ci := 4) (q0 := 0) rfl rfl) rfl hl.1 rfl (lv_room (Nat.le_of_ble_eq_true rfl)) d_L_law_1011 ⟨hcc, hss⟩ ?_
    refine W.eq (congrArg (fun z => F0 m 1014 ls (.int z :: [])) (show (u' 0) = 0 from hu0)) ?_
    refine lv_iload hx hb d_L_law_1014 (lv_at hl 1 rfl) ?_
    refine lv_icmp_eq (tgt := 1021) hx hb d_L_law_1016 (by decide) (fun c1 => ?_) (fun c1 => ?_)
    · refine lv_iload hx hb d_L_law_1021 (lv_at hl 1 rfl) ?_
      refine lv_if_ne (tgt := 1038) hx hb d_L_law_1023 (by decide) (fun c2 => ?_) (fun c2 => ?_)
      · exact absurd c2 (by decide)
      · refine lv_aload_n hx hb d_L_law_1026 rfl (lv_at hl 5 rfl) ?_
        refine lv_iconst (v := 0) hx hb d_L_law_1027 (by decide) ?_
        refine q_lald hx hb hKO (va_P_l hP1) 0 0 rfl rfl 0 (by decide) (by decide) d_L_law_1028 ?_
        refine W.eq (congrArg (fun z => F0 m 1029 ls (.long z :: [])) (show (vp_updL fo 0 r.toInt64 0) = r.toInt64 from rfl)) ?_
        refine lv_iload hx hb d_L_law_1029 (lv_at hl 0 rfl) ?_
        refine lv_i2l (v := (r).toInt64) hx hb d_L_law_1031 rfl ?_
        refine W.lcmp hx hb d_L_law_1032 ?_
        refine W.eq (congrArg (fun z => F0 m 1033 ls (.int z :: [])) (show (lg_cmp r.toInt64 ((r).toInt64)) = 0 from lgc _)) ?_
        refine lv_if_eq (tgt := 1038) hx hb d_L_law_1033 (by decide) (fun c3 => ?_) (fun c3 => ?_)
        · refine lv_goto (tgt := 1066) hx hb d_L_law_1038 (by decide) ?_
          exact kk g' z' v' h' o' u' (vp_updL fo 0 r.toInt64) _ _ _ _ _ hREL (hPk.app hP1) hD hS (by omega) (by omega) (lv_sub hl [2, 3, 4, 5, 6] rfl)
        · exact absurd c3 (by decide)
    · exact absurd c1 (by decide)
  · refine lv_aload_n hx hb d_L_law_961 rfl (lv_at hl 1 rfl) ?_
    refine lv_aload_n hx hb d_L_law_962 rfl (lv_at hl 0 rfl) ?_
    refine lv_iload hx hb d_L_law_963 (lv_at hl 4 rfl) ?_
    refine lv_iconst (v := 1) hx hb d_L_law_965 (by decide) ?_
    refine lv_iadd hx hb d_L_law_966 ?_
    refine W.eq (congrArg (fun z => F0 m 967 ls (.int z :: [.ref b, .ref (ad 0)])) (show ((nI i) + 1) = (nI (i + 1)) from nI_add i 1)) ?_
    refine q_sld hx hb hX hbl hbA hS (i + 1) (by omega) (by omega) d_L_law_967 ?_
    refine lv_aload_n hx hb d_L_law_968 rfl (lv_at hl 0 rfl) ?_
    refine lv_iload hx hb d_L_law_969 (lv_at hl 4 rfl) ?_
    refine lv_iconst (v := 2) hx hb d_L_law_971 (by decide) ?_
    refine lv_iadd hx hb d_L_law_972 ?_
    refine W.eq (congrArg (fun z => F0 m 973 ls (.int z :: [.ref b, .int (xs (i + 1)), .ref (ad 0)])) (show ((nI i) + 2) = (nI (i + 2)) from nI_add i 2)) ?_
    refine q_sld hx hb hX hbl hbA hS (i + 2) (by omega) (by omega) d_L_law_973 ?_
    refine lv_aload_n hx hb d_L_law_974 rfl (lv_at hl 0 rfl) ?_
    refine lv_iload hx hb d_L_law_975 (lv_at hl 4 rfl) ?_
    refine lv_iconst (v := 3) hx hb d_L_law_977 (by decide) ?_
    refine lv_iadd hx hb d_L_law_978 ?_
    refine W.eq (congrArg (fun z => F0 m 979 ls (.int z :: [.ref b, .int (xs (i + 2)), .int (xs (i + 1)), .ref (ad 0)])) (show ((nI i) + 3) = (nI (i + 3)) from nI_add i 3)) ?_
    refine q_sld hx hb hX hbl hbA hS (i + 3) (by omega) (by omega) d_L_law_979 ?_
    refine lv_aload_n hx hb d_L_law_980 rfl (lv_at hl 3 rfl) ?_
    refine wtSW (As := [.ref (ad 0), .int (xs (i + 1)), .int (xs (i + 2)), .int (xs (i + 3)), .ref oa]) (rest := []) ⟨hx, hb, hml, hown, htb⟩ (hML oa) (cwSW 5 htb mw_580 mw_581 mw_26 mw_582 hRL.1 hRL.2.1 (by decide +kernel) ⟨hRL.2.2.1, hRL.2.2.2⟩) (va_P_r (va_P_r hP)) hKA (F.xg hS) hS hA rfl hl.1 rfl (lv_room (Nat.le_of_ble_eq_true rfl)) d_L_law_981 ⟨hcc1, hss6⟩ (fun H locs hz hk hS => ?_)
    have hP := hP.kept (fun k q hq => hk q.1 (hP k q hq).lt)
    have hP1 := va_P_r hP
    have hPk := va_P_l hP
    refine lv_istore (lv' := [(5, .int k), (0, .ref b), (1, .ref (ad 0)), (2, .ref (an 0)), (3, .ref oa), (4, .int (nI i))]) hx hb d_L_law_984 hl (by decide) rfl (fun ls hl => ?_)
    refine lv_aload_n hx hb d_L_law_986 rfl (lv_at hl 3 rfl) ?_
    refine lv_aload_n hx hb d_L_law_987 rfl (lv_at hl 1 rfl) ?_
    refine lv_iload hx hb d_L_law_988 (lv_at hl 5 rfl) ?_
    refine lv_iconst (v := 1) hx hb d_L_law_990 (by decide) ?_
    refine lv_iadd hx hb d_L_law_991 ?_
    refine W.eq (congrArg (fun z => F0 m 992 ls (.int z :: [.ref b, .ref (an 0)])) (show ((nI i) + 1) = (nI (i + 1)) from nI_add i 1)) ?_
    refine q_sld hx hb hX hbl hbA hS (i + 1) (by omega) (by omega) d_L_law_992 ?_
    refine lv_aload_n hx hb d_L_law_993 rfl (lv_at hl 1 rfl) ?_
    refine lv_iload hx hb d_L_law_994 (lv_at hl 5 rfl) ?_
    refine lv_iconst (v := 2) hx hb d_L_law_996 (by decide) ?_
    refine lv_iadd hx hb d_L_law_997 ?_
    refine W.eq (congrArg (fun z => F0 m 998 ls (.int z :: [.ref b, .int (xs (i + 1)), .ref (an 0)])) (show ((nI i) + 2) = (nI (i + 2)) from nI_add i 2)) ?_
    refine q_sld hx hb hX hbl hbA hS (i + 2) (by omega) (by omega) d_L_law_998 ?_
    refine lv_aload_n hx hb d_L_law_999 rfl (lv_at hl 1 rfl) ?_
    refine lv_iload hx hb d_L_law_1000 (lv_at hl 5 rfl) ?_
    refine lv_iconst (v := 3) hx hb d_L_law_1002 (by decide) ?_
    refine lv_iadd hx hb d_L_law_1003 ?_
    refine W.eq (congrArg (fun z => F0 m 1004 ls (.int z :: [.ref b, .int (xs (i + 2)), .int (xs (i + 1)), .ref (an 0)])) (show ((nI i) + 3) = (nI (i + 3)) from nI_add i 3)) ?_
    refine q_sld hx hb hX hbl hbA hS (i + 3) (by omega) (by omega) d_L_law_1004 ?_
    refine wrVF (As := [.int (xs (i + 1)), .int (xs (i + 2)), .int (xs (i + 3))]) (rest := []) (b := an 0) ⟨hx, hb, hml, hown, htb⟩ hMK (cwV (C := R_K) 3 htb (gV tb_good mw_813 mw_814 mw_815 mw_31 mw_816) rfl hRK.1 hRK.2.1 (by decide +kernel) ⟨hRK.2.2.1, hRK.2.2.2⟩) hPk hP1 (D_swap hD) rfl hKK hS hA (va_recv hKK hPk (ci := 4) (q0 := 0) rfl rfl) rfl hl.1 rfl (lv_room (Nat.le_of_ble_eq_true rfl)) d_L_law_1005 ⟨hcc1, hss6⟩ (fun H locs hPk hP1 hD hS => ?_)
    have hD := D_swap hD
    refine lv_istore (lv' := [(6, .int r), (5, .int k), (0, .ref b), (1, .ref (ad 0)), (2, .ref (an 0)), (3, .ref oa), (4, .int (nI i))]) hx hb d_L_law_1008 hl (by decide) rfl (fun ls hl => ?_)
    refine lv_aload_n hx hb d_L_law_1010 rfl (lv_at hl 4 rfl) ?_
    refine rdV (As := []) (rest := []) (b := an 0) ⟨hx, hb, hml, hown, htb⟩ (c_K_thrown l D an kn h o (upd u 0 k)) (cwV (C := R_K) 0 htb (gV tb_good mw_664 mw_665 mw_666 mw_31 mw_667) rfl rfl rfl (by decide +kernel) ⟨Nat.le_of_ble_eq_true rfl, Nat.le_of_ble_eq_true rfl⟩) hPk hKK (va_recv hKK hPk (ci := 4) (q0 := 0) rfl rfl) rfl hl.1 rfl (lv_room (Nat.le_of_ble_eq_true rfl)) d_L_law_1011 ⟨hcc1, hss6⟩ ?_
    refine W.eq (congrArg (fun z => F0 m 1014 ls (.int z :: [])) (show (upd u 0 k 0) = k from rfl)) ?_
    refine lv_iload hx hb d_L_law_1014 (lv_at hl 1 rfl) ?_
    refine lv_icmp_eq (tgt := 1021) hx hb d_L_law_1016 (by decide) (fun c1 => ?_) (fun c1 => ?_)
    · refine lv_iload hx hb d_L_law_1021 (lv_at hl 1 rfl) ?_
      refine lv_if_ne (tgt := 1038) hx hb d_L_law_1023 (by decide) (fun c2 => ?_) (fun c2 => ?_)
      · refine lv_goto (tgt := 1066) hx hb d_L_law_1038 (by decide) ?_
        exact kk g z v h o (upd u 0 k) fo _ _ _ _ _ hREL (hPk.app hP1) hD hS (by omega) (by omega) (lv_sub hl [2, 3, 4, 5, 6] rfl)
      · exact absurd c2 hk0
    · exact absurd rfl c1
set_option maxHeartbeats 4000000 in
set_option maxRecDepth 100000 in
theorem law_count {REL : RelT} {p : Program} {l : Launch} {e : Env} {s : State} {m : MethodId} {args : Array Value} {below : List Frame} {meth : Method} {c : Code} {Q : State → Prop} {D : va_G} {ad an : Nat → Nat} {kd kn : Nat → ClassId} {oa : Nat} {ko : ClassId} {b L i C S : Nat} {xs : Nat → Int32} {g : Nat → Nat → Int32} {z : Nat → Int64} {v : Nat → Int32} {h : Nat → Nat → Int32} {o : Nat → Bool} {u : Nat → Int32} {fo : Nat → Int64} {H : Heap} {locs : List Loc} {cells slots : Nat} {ls : Array Slot}
    (F : LF p l s m args c D kd kn ko b L xs) (hi : i + 4 ≤ L) (hR : BOTH REL l D ad an kd kn g z v h o u y_M_count b_M_count 2 y_K_count b_K_count 5 .int [.int (xs (i + 1))])
    (hP : va_P D classes (wLaw ad an kd kn oa ko g z v h o u fo) H) (hD : va_D (LA s) (wLaw ad an kd kn oa ko g z v h o u fo)) (hS : va_S (LA s) s.heap H locs) (hc : cells + 1 ≤ C) (hs : slots + 6 ≤ S) (hC : C ≤ 1081) (hSS : S ≤ 14679)
    (kk : GO REL p l e s m args below meth c Q D ad an kd kn oa ko b i C S) (hl : lv_has ls 7 [(0, .ref b), (1, .ref (ad 0)), (2, .ref (an 0)), (3, .ref oa), (4, .int (nI i))]) :
    W p l e room_1 s m args below meth c H locs cells slots Q (F0 m 1041 ls []) := by
  obtain ⟨hx, hb, hml, hown, htb, hX, hbl, hKA, hKK, hKO, -, hL⟩ := id F
  have hbA : ¬ LA s b := Nat.not_le.mpr hbl
  have hA : ∀ q : Nat, s.heap.size ≤ q → LA s q := fun _ h => h
  have hcc : cells ≤ room_1.cells := by show cells ≤ 1081; omega
  have hss : slots ≤ room_1.slots := by show slots ≤ 14679; omega
  have hcc1 : cells + 1 ≤ room_1.cells := by show cells + 1 ≤ 1081; omega
  have hss6 : slots + 6 ≤ room_1.slots := by show slots + 6 ≤ 14679; omega
  unfold wLaw at hP hD
  obtain ⟨r, g', z', v', h', o', u', rM, rK, hRM, hRK, hMM, hMK, hREL⟩ := hR
  · refine lv_aload_n hx hb d_L_law_1041 rfl (lv_at hl 1 rfl) ?_
    refine lv_aload_n hx hb d_L_law_1042 rfl (lv_at hl 0 rfl) ?_
    refine lv_iload hx hb d_L_law_1043 (lv_at hl 4 rfl) ?_
    refine lv_iconst (v := 1) hx hb d_L_law_1045 (by decide) ?_
    refine lv_iadd hx hb d_L_law_1046 ?_
    refine W.eq (congrArg (fun z => F0 m 1047 ls (.int z :: [.ref b, .ref (ad 0)])) (show ((nI i) + 1) = (nI (i + 1)) from nI_add i 1)) ?_
    refine q_sld hx hb hX hbl hbA hS (i + 1) (by omega) (by omega) d_L_law_1047 ?_
    have hP9 : va_P D classes ((wK an kn h o u ++ wO oa ko fo) ++ wA ad kd g z v) H := by rw [List.append_assoc]; exact hP
    have hD9 : va_D (LA s) ((wK an kn h o u ++ wO oa ko fo) ++ wA ad kd g z v) := by rw [List.append_assoc]; exact hD
    refine wrVF (As := [.int (xs (i + 1))]) (rest := []) (b := ad 0) ⟨hx, hb, hml, hown, htb⟩ hMM (cwV (C := R_M) 1 htb (gV tb_good mw_252 mw_253 mw_254 mw_27 mw_255) rfl hRM.1 hRM.2.1 (by decide +kernel) ⟨hRM.2.2.1, hRM.2.2.2⟩) (va_P_r hP9) (va_P_l hP9) hD9 (w' := wA ad kd g' z' v') rfl hKA hS hA (va_recv hKA (va_P_r hP9) (ci := 0) (q0 := 0) rfl rfl) rfl hl.1 rfl (lv_room (Nat.le_of_ble_eq_true rfl)) d_L_law_1048 ⟨hcc, hss⟩ (fun H locs hPa hPr hD hS => ?_)
    rw [List.append_assoc] at hD
    have hPk := va_P_l hPr
    have hP1 := (va_P_r hPr).app hPa
    refine lv_aload_n hx hb d_L_law_1051 rfl (lv_at hl 2 rfl) ?_
    refine lv_aload_n hx hb d_L_law_1052 rfl (lv_at hl 0 rfl) ?_
    refine lv_iload hx hb d_L_law_1053 (lv_at hl 4 rfl) ?_
    refine lv_iconst (v := 1) hx hb d_L_law_1055 (by decide) ?_
    refine lv_iadd hx hb d_L_law_1056 ?_
    refine W.eq (congrArg (fun z => F0 m 1057 ls (.int z :: [.ref b, .ref (an 0), .int r])) (show ((nI i) + 1) = (nI (i + 1)) from nI_add i 1)) ?_
    refine q_sld hx hb hX hbl hbA hS (i + 1) (by omega) (by omega) d_L_law_1057 ?_
    refine wrVF (As := [.int (xs (i + 1))]) (rest := [.int r]) (b := an 0) ⟨hx, hb, hml, hown, htb⟩ hMK (cwV (C := R_K) 1 htb (gV tb_good mw_820 mw_821 mw_822 mw_31 mw_823) rfl hRK.1 hRK.2.1 (by decide +kernel) ⟨hRK.2.2.1, hRK.2.2.2⟩) hPk hP1 (D_swap hD) rfl hKK hS hA (va_recv hKK hPk (ci := 4) (q0 := 0) rfl rfl) rfl hl.1 rfl (lv_room (Nat.le_of_ble_eq_true rfl)) d_L_law_1058 ⟨hcc, hss⟩ (fun H locs hPk hP1 hD hS => ?_)
    have hD := D_swap hD
    refine lv_icmp_eq (tgt := 1066) hx hb d_L_law_1061 (by decide) (fun c1 => ?_) (fun c1 => ?_)
    · exact kk g' z' v' h' o' u' fo _ _ _ _ _ hREL (hPk.app hP1) hD hS (by omega) (by omega) (lv_sub hl [0, 1, 2, 3, 4] rfl)
    · exact absurd rfl c1
