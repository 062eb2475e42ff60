set_option maxHeartbeats 4000000 in
set_option maxRecDepth 100000 in
theorem c_K_amend (l : Launch) (D : va_G) (an : Nat → Nat) (kn : Nat → ClassId) (h : Nat → Nat → Int32) (o : Nat → Bool) (u : Nat → Int32) (nb : Nat) (hnb : u 1 = nI nb) (hb6 : nb ≤ 60) (nl : Nat) (hnl : u 3 = nI nl) (hl2 : nl ≤ 200) (k : Nat) (hk : k < nb) (q m9 : Nat) (hq : q < nl) (hpq : h 6 q = nI k) (hcq : cntN (fun z => decide (h 6 z = nI k)) q = m9) (w : Int32) (hw : inS w 0 1000000 = true) : WRi l y_K_amend (.code y_K_amend b_K_amend 7 (some .int) :: TB) ({ frames := 1, cells := 0, slots := 0, locals := 24 } : Room) [.ref (an 0), .int (nI k), .int (nI m9), .int w] D classes (wK an kn h o u) (wK an kn (up h 7 q w) o (upd (upd u 0 0) 4 (u 4 + feeK h u k q w))) (tK kn) (feeK h u k q w) := by
  refine wr_of (by decide +kernel) (rfl) (Nat.le_of_ble_eq_true rfl) ?_
  intro p e s m args below meth c Q ls A hx hb hml htb hown hP hK hD hS hA hl hret
  have hl : lv_has ls 7 [(0, .ref (an 0)), (1, .int (nI k)), (2, .int (nI m9)), (3, .int w)] := hl
  have hin : inN nb (nI k) = true := inN_nI hk (by omega)
  have hlo : m9 < lofR h nl (nI k) := by
    have z1 : cntN (fun z => decide (h 6 z = nI k)) (q + 1) = cntN (fun z => decide (h 6 z = nI k)) q + 1 := cntN_t (by simp [hpq])
    have z2 := cntN_mono (P := (fun z => decide (h 6 z = nI k))) (show q + 1 ≤ nl by omega)
    show m9 < cntN (fun z => decide (h 6 z = nI k)) nl
    omega
  have hlo2 : lofR h nl (nI k) ≤ nl := cntN_le _ _
  have hm0 : ¬ nI m9 < 0 := nI_pos (by omega)
  refine lv_aload_n hx hb d_K_amend_0 rfl (lv_at hl 0 rfl) ?_
  refine lv_aload_n hx hb d_K_amend_1 rfl (lv_at hl 0 rfl) ?_
  refine lv_iload_n hx hb d_K_amend_2 rfl (lv_at hl 1 rfl) ?_
  refine rdV (As := [.int (nI k)]) (rest := [.ref (an 0)]) (b := an 0) ⟨hx, hb, hml, hown, htb⟩ (c_K_isBill l D an kn h o u nb hnb hb6 (nI k)) (cwV (C := R_K) 1 htb (gV tb_good mw_680 mw_682 mw_6 mw_31 mw_683) rfl rfl rfl (by decide +kernel) ⟨Nat.le_of_ble_eq_true rfl, Nat.le_of_ble_eq_true rfl⟩) hP hK (va_recv hK hP (ci := 4) (q0 := 0) rfl rfl) rfl hl.1 rfl (lv_room (Nat.le_of_ble_eq_true rfl)) d_K_amend_3 ⟨Nat.zero_le _, Nat.zero_le _⟩ ?_
  refine lv_if_eq (tgt := 36) hx hb d_K_amend_6 (by decide) (fun c1 => ?_) (fun c1 => ?_)
  · replace c1 := bI_f c1
    first | (simp [hin, hw, hm0] at c1; done) | (simp at c1; omega) | (exact absurd c1 (by omega))
  · replace c1 := bI_t c1
    refine lv_iload_n hx hb d_K_amend_9 rfl (lv_at hl 2 rfl) ?_
    refine lv_if_lt (tgt := 36) hx hb d_K_amend_10 (by decide) (fun c2 => ?_) (fun c2 => ?_)
    · first | (simp [hin, hw, hm0] at c2; done) | (simp [hin, hw, hm0] at c1; done) | (simp at c2; omega) | (exact absurd c2 (by omega)) | (simp at c1; omega) | (exact absurd c1 (by omega))
    · refine lv_iload_n hx hb d_K_amend_13 rfl (lv_at hl 2 rfl) ?_
      refine lv_aload_n hx hb d_K_amend_14 rfl (lv_at hl 0 rfl) ?_
      refine lv_iload_n hx hb d_K_amend_15 rfl (lv_at hl 1 rfl) ?_
      refine rdV (As := [.int (nI k)]) (rest := [.int (nI m9), .ref (an 0)]) (b := an 0) ⟨hx, hb, hml, hown, htb⟩ (c_K_linesOf l D an kn h o u nl hnl hl2 (nI k)) (cwV (C := R_K) 1 htb (gV tb_good mw_701 mw_703 mw_10 mw_31 mw_704) rfl rfl rfl (by decide +kernel) ⟨Nat.le_of_ble_eq_true rfl, Nat.le_of_ble_eq_true rfl⟩) hP hK (va_recv hK hP (ci := 4) (q0 := 0) rfl rfl) rfl hl.1 rfl (lv_room (Nat.le_of_ble_eq_true rfl)) d_K_amend_16 ⟨Nat.zero_le _, Nat.zero_le _⟩ ?_
      refine q_icmp_ge (a := m9) (b := (lofR h nl (nI k))) (tgt := 36) hx hb (by omega) (by omega) d_K_amend_19 (by decide) (fun c3 => ?_) (fun c3 => ?_)
      · first | (simp [hin, hw, hm0] at c3; done) | (simp [hin, hw, hm0] at c2; done) | (simp [hin, hw, hm0] at c1; done) | (simp at c3; omega) | (exact absurd c3 (by omega)) | (simp at c2; omega) | (exact absurd c2 (by omega)) | (simp at c1; omega) | (exact absurd c1 (by omega))
      · refine lv_iload_n hx hb d_K_amend_22 rfl (lv_at hl 3 rfl) ?_
        refine lv_iconst (v := 0) hx hb d_K_amend_23 (by decide) ?_
        refine lv_ldc (v := 1000000) hx hb hown (htb _ mw_696) d_K_amend_24 ?_
        refine rdS (As := [.int w, .int 0, .int 1000000]) (rest := [.ref (an 0)]) ⟨hx, hb, hml, hown, htb⟩ (c_K_in l D (wK an kn h o u) (tK kn) w 0 1000000) (va_cwS 3 htb (gS tb_good mw_672 mw_673 mw_31 mw_674) rfl rfl rfl (by decide +kernel) ⟨Nat.le_of_ble_eq_true rfl, Nat.le_of_ble_eq_true rfl⟩) hP hK rfl hl.1 rfl (lv_room (Nat.le_of_ble_eq_true rfl)) d_K_amend_26 ⟨Nat.zero_le _, Nat.zero_le _⟩ ?_
        refine lv_if_eq (tgt := 36) hx hb d_K_amend_29 (by decide) (fun c4 => ?_) (fun c4 => ?_)
        · replace c4 := bI_f c4
          first | (simp [hin, hw, hm0] at c4; done) | (simp [hin, hw, hm0] at c3; done) | (simp [hin, hw, hm0] at c2; done) | (simp [hin, hw, hm0] at c1; done) | (simp at c4; omega) | (exact absurd c4 (by omega)) | (simp at c3; omega) | (exact absurd c3 (by omega)) | (simp at c2; omega) | (exact absurd c2 (by omega)) | (simp at c1; omega) | (exact absurd c1 (by omega))
        · replace c4 := bI_t c4
          refine lv_iconst (v := 0) hx hb d_K_amend_32 (by decide) ?_
          refine lv_goto (tgt := 37) hx hb d_K_amend_33 (by decide) ?_
          refine va_put (D := D) (ci := 4) (v := .int 0) (ty := .int) (C := R_K) (T := F_K) (N := 22) hx hb htb iw_K t_K t_K_ok n_K hown hK hP hD hS 0 rfl rfl 0 (by decide) (htb _ mw_596) (fun _ h9 => h9) rfl (by decide +kernel) rfl rfl (Nat.le_of_ble_eq_true rfl) d_K_amend_37 (fun H locs hP hD hS => ?_)
          have hP : va_P D classes (wK an kn h o (upd u 0 0)) H := hP
          have hD : va_D A (wK an kn h o (upd u 0 0)) := hD
          refine lv_aload_n hx hb d_K_amend_40 rfl (lv_at hl 0 rfl) ?_
          refine va_get (D := D) (ci := 4) (v := .int 0) (C := R_K) (T := F_K) (N := 22) hx hb htb iw_K hown hK hP 0 rfl rfl 0 (by decide) (htb _ mw_596) (fun _ h9 => h9) rfl d_K_amend_41 ?_
          refine lv_if_le (tgt := 49) hx hb d_K_amend_44 (by decide) (fun c5 => ?_) (fun c5 => ?_)
          · refine lv_aload_n hx hb d_K_amend_49 rfl (lv_at hl 0 rfl) ?_
            refine lv_iload_n hx hb d_K_amend_50 rfl (lv_at hl 1 rfl) ?_
            refine lv_iload_n hx hb d_K_amend_51 rfl (lv_at hl 2 rfl) ?_
            refine rdV (As := [.int (nI k), .int (nI m9)]) (rest := []) (b := an 0) ⟨hx, hb, hml, hown, htb⟩ (c_K_lineAt l D an kn h o (upd u 0 0) nl (show (upd u 0 0) 3 = nI nl from hnl) hl2 (nI k) q m9 hq hpq hcq) (cwV (C := R_K) 2 htb (gV tb_good mw_737 mw_739 mw_14 mw_31 mw_740) rfl rfl rfl (by decide +kernel) ⟨Nat.le_of_ble_eq_true rfl, Nat.le_of_ble_eq_true rfl⟩) hP hK (va_recv hK hP (ci := 4) (q0 := 0) rfl rfl) rfl hl.1 rfl (lv_room (Nat.le_of_ble_eq_true rfl)) d_K_amend_52 ⟨Nat.zero_le _, Nat.zero_le _⟩ ?_
            refine lv_istore (lv' := [(4, .int (nI q)), (0, .ref (an 0)), (1, .int (nI k)), (2, .int (nI m9)), (3, .int w)]) hx hb d_K_amend_55 hl (by decide) rfl (fun ls hl => ?_)
            refine lv_iload_n hx hb d_K_amend_57 rfl (lv_at hl 4 rfl) ?_
            refine lv_aload_n hx hb d_K_amend_58 rfl (lv_at hl 1 rfl) ?_
            refine va_get (D := D) (ci := 4) (v := .ref (an 7)) (C := R_K) (T := F_K) (N := 22) hx hb htb iw_K hown hK hP 0 rfl rfl 13 (by decide) (htb _ mw_609) (fun _ h9 => h9) rfl d_K_amend_59 ?_
            refine lv_iload hx hb d_K_amend_62 (lv_at hl 0 rfl) ?_
            refine q_iald hx hb hK hP 7 6 rfl rfl q (by omega) (by decide) d_K_amend_64 ?_
            refine lv_icmp_le (tgt := 80) hx hb d_K_amend_65 (by decide) (fun c6 => ?_) (fun c6 => ?_)
            · refine lv_aload_n hx hb d_K_amend_80 rfl (lv_at hl 1 rfl) ?_
              refine va_get (D := D) (ci := 4) (v := .ref (an 7)) (C := R_K) (T := F_K) (N := 22) hx hb htb iw_K hown hK hP 0 rfl rfl 13 (by decide) (htb _ mw_609) (fun _ h9 => h9) rfl d_K_amend_81 ?_
              refine lv_iload hx hb d_K_amend_84 (lv_at hl 0 rfl) ?_
              refine q_iald hx hb hK hP 7 6 rfl rfl q (by omega) (by decide) d_K_amend_86 ?_
              refine lv_iload_n hx hb d_K_amend_87 rfl (lv_at hl 4 rfl) ?_
              refine lv_isub hx hb d_K_amend_88 ?_
              refine lv_istore (lv' := [(5, .int ((h 7 q) - w)), (4, .int (nI q)), (0, .ref (an 0)), (1, .int (nI k)), (2, .int (nI m9)), (3, .int w)]) hx hb d_K_amend_89 hl (by decide) rfl (fun ls hl => ?_)
              refine lv_aload_n hx hb d_K_amend_91 rfl (lv_at hl 2 rfl) ?_
              refine va_get (D := D) (ci := 4) (v := .ref (an 7)) (C := R_K) (T := F_K) (N := 22) hx hb htb iw_K hown hK hP 0 rfl rfl 13 (by decide) (htb _ mw_609) (fun _ h9 => h9) rfl d_K_amend_92 ?_
              refine lv_iload hx hb d_K_amend_95 (lv_at hl 1 rfl) ?_
              refine lv_iload_n hx hb d_K_amend_97 rfl (lv_at hl 5 rfl) ?_
              refine q_iast hx hb hK hP hD hS 7 6 rfl rfl q (x := w) (by omega) (by decide) d_K_amend_98 (fun H locs hP hD hS => ?_)
              have hP : va_P D classes (wK an kn (up h 7 q w) o (upd u 0 0)) H := hP
              have hD : va_D A (wK an kn (up h 7 q w) o (upd u 0 0)) := hD
              refine lv_iload hx hb d_K_amend_99 (lv_at hl 0 rfl) ?_
              refine lv_if_le (tgt := 133) hx hb d_K_amend_101 (by decide) (fun c7 => ?_) (fun c7 => ?_)
              · refine lv_iconst (v := 0) hx hb d_K_amend_133 (by decide) ?_
                refine lv_istore (lv' := [(6, .int 0), (5, .int ((h 7 q) - w)), (4, .int (nI q)), (0, .ref (an 0)), (1, .int (nI k)), (2, .int (nI m9)), (3, .int w)]) hx hb d_K_amend_134 hl (by decide) rfl (fun ls hl => ?_)
                refine lv_aload_n hx hb d_K_amend_136 rfl (lv_at hl 3 rfl) ?_
                refine lv_dup hx hb d_K_amend_137 rfl ?_
                refine va_get (D := D) (ci := 4) (v := .int (u 4)) (C := R_K) (T := F_K) (N := 22) hx hb htb iw_K hown hK hP 0 rfl rfl 4 (by decide) (htb _ mw_600) (fun _ h9 => h9) rfl d_K_amend_138 ?_
                refine lv_iload hx hb d_K_amend_141 (lv_at hl 0 rfl) ?_
                refine lv_iadd hx hb d_K_amend_143 ?_
                refine va_put (D := D) (ci := 4) (v := .int ((u 4) + 0)) (ty := .int) (C := R_K) (T := F_K) (N := 22) hx hb htb iw_K t_K t_K_ok n_K hown hK hP hD hS 0 rfl rfl 4 (by decide) (htb _ mw_600) (fun _ h9 => h9) rfl (by decide +kernel) rfl rfl (Nat.le_of_ble_eq_true rfl) d_K_amend_144 (fun H locs hP hD hS => ?_)
                have hP : va_P D classes (wK an kn (up h 7 q w) o (upd (upd u 0 0) 4 ((u 4) + 0))) H := hP
                have hD : va_D A (wK an kn (up h 7 q w) o (upd (upd u 0 0) 4 ((u 4) + 0))) := hD
                refine lv_iload hx hb d_K_amend_147 (lv_at hl 0 rfl) ?_
                exact hret _ _ _ _ _ (by simp [feeK, farK, c1, c2, c3, c4, c5, c6, c7]) (by rw [show feeK h u k q w = 0 by simp [feeK, farK, c1, c2, c3, c4, c5, c6, c7]]; exact hP) hS d_K_amend_149
              · refine lv_aload_n hx hb d_K_amend_104 rfl (lv_at hl 2 rfl) ?_
                refine va_get (D := D) (ci := 4) (v := .int (u 6)) (C := R_K) (T := F_K) (N := 22) hx hb htb iw_K hown hK hP 0 rfl rfl 6 (by decide) (htb _ mw_602) (fun _ h9 => h9) rfl d_K_amend_105 ?_
                refine lv_aload_n hx hb d_K_amend_108 rfl (lv_at hl 2 rfl) ?_
                refine va_get (D := D) (ci := 4) (v := .ref (an 1)) (C := R_K) (T := F_K) (N := 22) hx hb htb iw_K hown hK hP 0 rfl rfl 7 (by decide) (htb _ mw_603) (fun _ h9 => h9) rfl d_K_amend_109 ?_
                refine lv_iload_n hx hb d_K_amend_112 rfl (lv_at hl 3 rfl) ?_
                refine q_iald hx hb hK hP 1 0 rfl rfl k (by omega) (by decide) d_K_amend_113 ?_
                refine W.eq (congrArg (fun z => F0 m 114 ls (.int z :: [.int (u 6)])) (show (h 1 k) = (h 1 k) from rfl)) ?_
                refine lv_ishr hx hb d_K_amend_114 ?_
                refine lv_iconst (v := 1) hx hb d_K_amend_115 (by decide) ?_
                refine lv_iand hx hb d_K_amend_116 ?_
                refine lv_iconst (v := 1) hx hb d_K_amend_117 (by decide) ?_
                refine lv_icmp_ne (tgt := 133) hx hb d_K_amend_118 (by decide) (fun c8 => ?_) (fun c8 => ?_)
                · refine lv_iconst (v := 0) hx hb d_K_amend_133 (by decide) ?_
                  refine lv_istore (lv' := [(6, .int 0), (5, .int ((h 7 q) - w)), (4, .int (nI q)), (0, .ref (an 0)), (1, .int (nI k)), (2, .int (nI m9)), (3, .int w)]) hx hb d_K_amend_134 hl (by decide) rfl (fun ls hl => ?_)
                  refine lv_aload_n hx hb d_K_amend_136 rfl (lv_at hl 3 rfl) ?_
                  refine lv_dup hx hb d_K_amend_137 rfl ?_
                  refine va_get (D := D) (ci := 4) (v := .int (u 4)) (C := R_K) (T := F_K) (N := 22) hx hb htb iw_K hown hK hP 0 rfl rfl 4 (by decide) (htb _ mw_600) (fun _ h9 => h9) rfl d_K_amend_138 ?_
                  refine lv_iload hx hb d_K_amend_141 (lv_at hl 0 rfl) ?_
                  refine lv_iadd hx hb d_K_amend_143 ?_
                  refine va_put (D := D) (ci := 4) (v := .int ((u 4) + 0)) (ty := .int) (C := R_K) (T := F_K) (N := 22) hx hb htb iw_K t_K t_K_ok n_K hown hK hP hD hS 0 rfl rfl 4 (by decide) (htb _ mw_600) (fun _ h9 => h9) rfl (by decide +kernel) rfl rfl (Nat.le_of_ble_eq_true rfl) d_K_amend_144 (fun H locs hP hD hS => ?_)
                  have hP : va_P D classes (wK an kn (up h 7 q w) o (upd (upd u 0 0) 4 ((u 4) + 0))) H := hP
                  have hD : va_D A (wK an kn (up h 7 q w) o (upd (upd u 0 0) 4 ((u 4) + 0))) := hD
                  refine lv_iload hx hb d_K_amend_147 (lv_at hl 0 rfl) ?_
                  exact hret _ _ _ _ _ (by simp [feeK, farK, c1, c2, c3, c4, c5, c6, c7, c8]) (by rw [show feeK h u k q w = 0 by simp [feeK, farK, c1, c2, c3, c4, c5, c6, c7, c8]]; exact hP) hS d_K_amend_149
                · refine lv_bipush (v := 100) hx hb d_K_amend_121 (by decide) ?_
                  refine lv_iload hx hb d_K_amend_123 (lv_at hl 0 rfl) ?_
                  refine lv_sipush (v := 1000) hx hb d_K_amend_125 (by decide) ?_
                  refine lv_idiv hx hb d_K_amend_128 (by decide) ?_
                  refine lv_iadd hx hb d_K_amend_129 ?_
                  refine lv_goto (tgt := 134) hx hb d_K_amend_130 (by decide) ?_
                  refine lv_istore (lv' := [(6, .int (100 + (((h 7 q) - w) / 1000))), (5, .int ((h 7 q) - w)), (4, .int (nI q)), (0, .ref (an 0)), (1, .int (nI k)), (2, .int (nI m9)), (3, .int w)]) hx hb d_K_amend_134 hl (by decide) rfl (fun ls hl => ?_)
                  refine lv_aload_n hx hb d_K_amend_136 rfl (lv_at hl 3 rfl) ?_
                  refine lv_dup hx hb d_K_amend_137 rfl ?_
                  refine va_get (D := D) (ci := 4) (v := .int (u 4)) (C := R_K) (T := F_K) (N := 22) hx hb htb iw_K hown hK hP 0 rfl rfl 4 (by decide) (htb _ mw_600) (fun _ h9 => h9) rfl d_K_amend_138 ?_
                  refine lv_iload hx hb d_K_amend_141 (lv_at hl 0 rfl) ?_
                  refine lv_iadd hx hb d_K_amend_143 ?_
                  refine va_put (D := D) (ci := 4) (v := .int ((u 4) + (100 + (((h 7 q) - w) / 1000)))) (ty := .int) (C := R_K) (T := F_K) (N := 22) hx hb htb iw_K t_K t_K_ok n_K hown hK hP hD hS 0 rfl rfl 4 (by decide) (htb _ mw_600) (fun _ h9 => h9) rfl (by decide +kernel) rfl rfl (Nat.le_of_ble_eq_true rfl) d_K_amend_144 (fun H locs hP hD hS => ?_)
                  have hP : va_P D classes (wK an kn (up h 7 q w) o (upd (upd u 0 0) 4 ((u 4) + (100 + (((h 7 q) - w) / 1000))))) H := hP
                  have hD : va_D A (wK an kn (up h 7 q w) o (upd (upd u 0 0) 4 ((u 4) + (100 + (((h 7 q) - w) / 1000))))) := hD
                  refine lv_iload hx hb d_K_amend_147 (lv_at hl 0 rfl) ?_
                  exact hret _ _ _ _ _ (by simp [feeK, farK, c1, c2, c3, c4, c5, c6, c7, c8]) (by rw [show feeK h u k q w = (100 + (((h 7 q) - w) / 1000)) by simp [feeK, farK, c1, c2, c3, c4, c5, c6, c7, c8]]; exact hP) hS d_K_amend_149
            · refine lv_iload_n hx hb d_K_amend_68 rfl (lv_at hl 4 rfl) ?_
              refine lv_aload_n hx hb d_K_amend_69 rfl (lv_at hl 1 rfl) ?_
              refine va_get (D := D) (ci := 4) (v := .ref (an 7)) (C := R_K) (T := F_K) (N := 22) hx hb htb iw_K hown hK hP 0 rfl rfl 13 (by decide) (htb _ mw_609) (fun _ h9 => h9) rfl d_K_amend_70 ?_
              refine lv_iload hx hb d_K_amend_73 (lv_at hl 0 rfl) ?_
              refine q_iald hx hb hK hP 7 6 rfl rfl q (by omega) (by decide) d_K_amend_75 ?_
              refine lv_isub hx hb d_K_amend_76 ?_
              refine lv_goto (tgt := 89) hx hb d_K_amend_77 (by decide) ?_
              refine lv_istore (lv' := [(5, .int (w - (h 7 q))), (4, .int (nI q)), (0, .ref (an 0)), (1, .int (nI k)), (2, .int (nI m9)), (3, .int w)]) hx hb d_K_amend_89 hl (by decide) rfl (fun ls hl => ?_)
              refine lv_aload_n hx hb d_K_amend_91 rfl (lv_at hl 2 rfl) ?_
              refine va_get (D := D) (ci := 4) (v := .ref (an 7)) (C := R_K) (T := F_K) (N := 22) hx hb htb iw_K hown hK hP 0 rfl rfl 13 (by decide) (htb _ mw_609) (fun _ h9 => h9) rfl d_K_amend_92 ?_
              refine lv_iload hx hb d_K_amend_95 (lv_at hl 1 rfl) ?_
              refine lv_iload_n hx hb d_K_amend_97 rfl (lv_at hl 5 rfl) ?_
              refine q_iast hx hb hK hP hD hS 7 6 rfl rfl q (x := w) (by omega) (by decide) d_K_amend_98 (fun H locs hP hD hS => ?_)
              have hP : va_P D classes (wK an kn (up h 7 q w) o (upd u 0 0)) H := hP
              have hD : va_D A (wK an kn (up h 7 q w) o (upd u 0 0)) := hD
              refine lv_iload hx hb d_K_amend_99 (lv_at hl 0 rfl) ?_
              refine lv_if_le (tgt := 133) hx hb d_K_amend_101 (by decide) (fun c9 => ?_) (fun c9 => ?_)
              · refine lv_iconst (v := 0) hx hb d_K_amend_133 (by decide) ?_
                refine lv_istore (lv' := [(6, .int 0), (5, .int (w - (h 7 q))), (4, .int (nI q)), (0, .ref (an 0)), (1, .int (nI k)), (2, .int (nI m9)), (3, .int w)]) hx hb d_K_amend_134 hl (by decide) rfl (fun ls hl => ?_)
                refine lv_aload_n hx hb d_K_amend_136 rfl (lv_at hl 3 rfl) ?_
                refine lv_dup hx hb d_K_amend_137 rfl ?_
                refine va_get (D := D) (ci := 4) (v := .int (u 4)) (C := R_K) (T := F_K) (N := 22) hx hb htb iw_K hown hK hP 0 rfl rfl 4 (by decide) (htb _ mw_600) (fun _ h9 => h9) rfl d_K_amend_138 ?_
                refine lv_iload hx hb d_K_amend_141 (lv_at hl 0 rfl) ?_
                refine lv_iadd hx hb d_K_amend_143 ?_
                refine va_put (D := D) (ci := 4) (v := .int ((u 4) + 0)) (ty := .int) (C := R_K) (T := F_K) (N := 22) hx hb htb iw_K t_K t_K_ok n_K hown hK hP hD hS 0 rfl rfl 4 (by decide) (htb _ mw_600) (fun _ h9 => h9) rfl (by decide +kernel) rfl rfl (Nat.le_of_ble_eq_true rfl) d_K_amend_144 (fun H locs hP hD hS => ?_)
                have hP : va_P D classes (wK an kn (up h 7 q w) o (upd (upd u 0 0) 4 ((u 4) + 0))) H := hP
                have hD : va_D A (wK an kn (up h 7 q w) o (upd (upd u 0 0) 4 ((u 4) + 0))) := hD
                refine lv_iload hx hb d_K_amend_147 (lv_at hl 0 rfl) ?_
                exact hret _ _ _ _ _ (by simp [feeK, farK, c1, c2, c3, c4, c5, c6, c9]) (by rw [show feeK h u k q w = 0 by simp [feeK, farK, c1, c2, c3, c4, c5, c6, c9]]; exact hP) hS d_K_amend_149
              · refine lv_aload_n hx hb d_K_amend_104 rfl (lv_at hl 2 rfl) ?_
                refine va_get (D := D) (ci := 4) (v := .int (u 6)) (C := R_K) (T := F_K) (N := 22) hx hb htb iw_K hown hK hP 0 rfl rfl 6 (by decide) (htb _ mw_602) (fun _ h9 => h9) rfl d_K_amend_105 ?_
                refine lv_aload_n hx hb d_K_amend_108 rfl (lv_at hl 2 rfl) ?_
                refine va_get (D := D) (ci := 4) (v := .ref (an 1)) (C := R_K) (T := F_K) (N := 22) hx hb htb iw_K hown hK hP 0 rfl rfl 7 (by decide) (htb _ mw_603) (fun _ h9 => h9) rfl d_K_amend_109 ?_
                refine lv_iload_n hx hb d_K_amend_112 rfl (lv_at hl 3 rfl) ?_
                refine q_iald hx hb hK hP 1 0 rfl rfl k (by omega) (by decide) d_K_amend_113 ?_
                refine W.eq (congrArg (fun z => F0 m 114 ls (.int z :: [.int (u 6)])) (show (h 1 k) = (h 1 k) from rfl)) ?_
                refine lv_ishr hx hb d_K_amend_114 ?_
                refine lv_iconst (v := 1) hx hb d_K_amend_115 (by decide) ?_
                refine lv_iand hx hb d_K_amend_116 ?_
                refine lv_iconst (v := 1) hx hb d_K_amend_117 (by decide) ?_
                refine lv_icmp_ne (tgt := 133) hx hb d_K_amend_118 (by decide) (fun c10 => ?_) (fun c10 => ?_)
                · refine lv_iconst (v := 0) hx hb d_K_amend_133 (by decide) ?_
                  refine lv_istore (lv' := [(6, .int 0), (5, .int (w - (h 7 q))), (4, .int (nI q)), (0, .ref (an 0)), (1, .int (nI k)), (2, .int (nI m9)), (3, .int w)]) hx hb d_K_amend_134 hl (by decide) rfl (fun ls hl => ?_)
                  refine lv_aload_n hx hb d_K_amend_136 rfl (lv_at hl 3 rfl) ?_
                  refine lv_dup hx hb d_K_amend_137 rfl ?_
                  refine va_get (D := D) (ci := 4) (v := .int (u 4)) (C := R_K) (T := F_K) (N := 22) hx hb htb iw_K hown hK hP 0 rfl rfl 4 (by decide) (htb _ mw_600) (fun _ h9 => h9) rfl d_K_amend_138 ?_
                  refine lv_iload hx hb d_K_amend_141 (lv_at hl 0 rfl) ?_
                  refine lv_iadd hx hb d_K_amend_143 ?_
                  refine va_put (D := D) (ci := 4) (v := .int ((u 4) + 0)) (ty := .int) (C := R_K) (T := F_K) (N := 22) hx hb htb iw_K t_K t_K_ok n_K hown hK hP hD hS 0 rfl rfl 4 (by decide) (htb _ mw_600) (fun _ h9 => h9) rfl (by decide +kernel) rfl rfl (Nat.le_of_ble_eq_true rfl) d_K_amend_144 (fun H locs hP hD hS => ?_)
                  have hP : va_P D classes (wK an kn (up h 7 q w) o (upd (upd u 0 0) 4 ((u 4) + 0))) H := hP
                  have hD : va_D A (wK an kn (up h 7 q w) o (upd (upd u 0 0) 4 ((u 4) + 0))) := hD
                  refine lv_iload hx hb d_K_amend_147 (lv_at hl 0 rfl) ?_
                  exact hret _ _ _ _ _ (by simp [feeK, farK, c1, c2, c3, c4, c5, c6, c9, c10]) (by rw [show feeK h u k q w = 0 by simp [feeK, farK, c1, c2, c3, c4, c5, c6, c9, c10]]; exact hP) hS d_K_amend_149
                · refine lv_bipush (v := 100) hx hb d_K_amend_121 (by decide) ?_
                  refine lv_iload hx hb d_K_amend_123 (lv_at hl 0 rfl) ?_
                  refine lv_sipush (v := 1000) hx hb d_K_amend_125 (by decide) ?_
                  refine lv_idiv hx hb d_K_amend_128 (by decide) ?_
                  refine lv_iadd hx hb d_K_amend_129 ?_
                  refine lv_goto (tgt := 134) hx hb d_K_amend_130 (by decide) ?_
                  refine lv_istore (lv' := [(6, .int (100 + ((w - (h 7 q)) / 1000))), (5, .int (w - (h 7 q))), (4, .int (nI q)), (0, .ref (an 0)), (1, .int (nI k)), (2, .int (nI m9)), (3, .int w)]) hx hb d_K_amend_134 hl (by decide) rfl (fun ls hl => ?_)
                  refine lv_aload_n hx hb d_K_amend_136 rfl (lv_at hl 3 rfl) ?_
                  refine lv_dup hx hb d_K_amend_137 rfl ?_
                  refine va_get (D := D) (ci := 4) (v := .int (u 4)) (C := R_K) (T := F_K) (N := 22) hx hb htb iw_K hown hK hP 0 rfl rfl 4 (by decide) (htb _ mw_600) (fun _ h9 => h9) rfl d_K_amend_138 ?_
                  refine lv_iload hx hb d_K_amend_141 (lv_at hl 0 rfl) ?_
                  refine lv_iadd hx hb d_K_amend_143 ?_
                  refine va_put (D := D) (ci := 4) (v := .int ((u 4) + (100 + ((w - (h 7 q)) / 1000)))) (ty := .int) (C := R_K) (T := F_K) (N := 22) hx hb htb iw_K t_K t_K_ok n_K hown hK hP hD hS 0 rfl rfl 4 (by decide) (htb _ mw_600) (fun _ h9 => h9) rfl (by decide +kernel) rfl rfl (Nat.le_of_ble_eq_true rfl) d_K_amend_144 (fun H locs hP hD hS => ?_)
                  have hP : va_P D classes (wK an kn (up h 7 q w) o (upd (upd u 0 0) 4 ((u 4) + (100 + ((w - (h 7 q)) / 1000))))) H := hP
                  have hD : va_D A (wK an kn (up h 7 q w) o (upd (upd u 0 0) 4 ((u 4) + (100 + ((w - (h 7 q)) / 1000))))) := hD
                  refine lv_iload hx hb d_K_amend_147 (lv_at hl 0 rfl) ?_
                  exact hret _ _ _ _ _ (by simp [feeK, farK, c1, c2, c3, c4, c5, c6, c9, c10]) (by rw [show feeK h u k q w = (100 + ((w - (h 7 q)) / 1000)) by simp [feeK, farK, c1, c2, c3, c4, c5, c6, c9, c10]]; exact hP) hS d_K_amend_149
          · exact absurd c5 (by decide)
set_option maxHeartbeats 4000000 in
set_option maxRecDepth 100000 in
theorem c_K_seen (l : Launch) (D : va_G) (an : Nat → Nat) (kn : Nat → ClassId) (h : Nat → Nat → Int32) (o : Nat → Bool) (u : Nat → Int32) (nb : Nat) (hnb : u 1 = nI nb) (hb6 : nb ≤ 60) (nx : Nat) (hnx : u 2 = nI nx) (hx6 : nx ≤ 60) (rk : Nat → Nat) (hrk : rkOk h nx rk) (j : Nat) (hj : j < nx) (k : Nat) (hk : k < 10) (hbl : nI k - 10 < nI (bofR o nb j)) : WRi l y_K_seen (.code y_K_seen b_K_seen 6 (some .int) :: TB) ({ frames := 3, cells := 0, slots := 0, locals := 66 } : Room) [.ref (an 0), .int (nI j), .int (nI k)] D classes (wK an kn h o u) (wK an kn h o (upd u 0 0)) (tK kn) (seeK h o nb nx j k) := by
  refine wr_of (by decide +kernel) (rfl) (Nat.le_of_ble_eq_true rfl) ?_
  intro p e s m args below meth c Q ls A hx hb hml htb hown hP hK hD hS hA hl hret
  have hl : lv_has ls 6 [(0, .ref (an 0)), (1, .int (nI j)), (2, .int (nI k))] := hl
  have hin : inN nx (nI j) = true := inN_nI hj (by omega)
  have hwh : inS (nI k) 0 13 = true := inS_nI (b := 13) (by omega)
  refine lv_aload_n hx hb d_K_seen_0 rfl (lv_at hl 0 rfl) ?_
  refine lv_aload_n hx hb d_K_seen_1 rfl (lv_at hl 0 rfl) ?_
  refine lv_iload_n hx hb d_K_seen_2 rfl (lv_at hl 1 rfl) ?_
  refine rdV (As := [.int (nI j)]) (rest := [.ref (an 0)]) (b := an 0) ⟨hx, hb, hml, hown, htb⟩ (c_K_isBox l D an kn h o u nx hnx hx6 (nI j)) (cwV (C := R_K) 1 htb (gV tb_good mw_713 mw_715 mw_11 mw_31 mw_716) rfl rfl rfl (by decide +kernel) ⟨Nat.le_of_ble_eq_true rfl, Nat.le_of_ble_eq_true rfl⟩) hP hK (va_recv hK hP (ci := 4) (q0 := 0) rfl rfl) rfl hl.1 rfl (lv_room (Nat.le_of_ble_eq_true rfl)) d_K_seen_3 ⟨Nat.zero_le _, Nat.zero_le _⟩ ?_
  refine lv_if_eq (tgt := 19) hx hb d_K_seen_6 (by decide) (fun c1 => ?_) (fun c1 => ?_)
  · replace c1 := bI_f c1
    first | (simp [hin, hwh] at c1; done) | (simp at c1; omega) | (exact absurd c1 (by omega))
  · replace c1 := bI_t c1
    refine lv_iload_n hx hb d_K_seen_9 rfl (lv_at hl 2 rfl) ?_
    refine lv_iconst (v := 0) hx hb d_K_seen_10 (by decide) ?_
    refine lv_bipush (v := 13) hx hb d_K_seen_11 (by decide) ?_
    refine rdS (As := [.int (nI k), .int 0, .int 13]) (rest := [.ref (an 0)]) ⟨hx, hb, hml, hown, htb⟩ (c_K_in l D (wK an kn h o u) (tK kn) (nI k) 0 13) (va_cwS 3 htb (gS tb_good mw_672 mw_673 mw_31 mw_674) rfl rfl rfl (by decide +kernel) ⟨Nat.le_of_ble_eq_true rfl, Nat.le_of_ble_eq_true rfl⟩) hP hK rfl hl.1 rfl (lv_room (Nat.le_of_ble_eq_true rfl)) d_K_seen_13 ⟨Nat.zero_le _, Nat.zero_le _⟩ ?_
    refine lv_if_ne (tgt := 23) hx hb d_K_seen_16 (by decide) (fun c2 => ?_) (fun c2 => ?_)
    · replace c2 := bI_t c2
      refine lv_iload_n hx hb d_K_seen_23 rfl (lv_at hl 2 rfl) ?_
      refine lv_bipush (v := 10) hx hb d_K_seen_24 (by decide) ?_
      refine lv_isub hx hb d_K_seen_26 ?_
      refine lv_aload_n hx hb d_K_seen_27 rfl (lv_at hl 0 rfl) ?_
      refine lv_aload_n hx hb d_K_seen_28 rfl (lv_at hl 0 rfl) ?_
      refine lv_iload_n hx hb d_K_seen_29 rfl (lv_at hl 1 rfl) ?_
      refine rdV (As := [.int (nI j)]) (rest := [.ref (an 0), .int ((nI k) - 10), .ref (an 0)]) (b := an 0) ⟨hx, hb, hml, hown, htb⟩ (c_K_isBox l D an kn h o u nx hnx hx6 (nI j)) (cwV (C := R_K) 1 htb (gV tb_good mw_713 mw_715 mw_11 mw_31 mw_716) rfl rfl rfl (by decide +kernel) ⟨Nat.le_of_ble_eq_true rfl, Nat.le_of_ble_eq_true rfl⟩) hP hK (va_recv hK hP (ci := 4) (q0 := 0) rfl rfl) rfl hl.1 rfl (lv_room (Nat.le_of_ble_eq_true rfl)) d_K_seen_30 ⟨Nat.zero_le _, Nat.zero_le _⟩ ?_
      refine lv_if_eq (tgt := 40) hx hb d_K_seen_33 (by decide) (fun c3 => ?_) (fun c3 => ?_)
      · replace c3 := bI_f c3
        rw [hin] at c3; exact absurd c3 (by decide)
      · replace c3 := bI_t c3
        refine lv_iload_n hx hb d_K_seen_36 rfl (lv_at hl 1 rfl) ?_
        refine lv_goto (tgt := 41) hx hb d_K_seen_37 (by decide) ?_
        refine rdV (As := [.int (nI j)]) (rest := [.int ((nI k) - 10), .ref (an 0)]) (b := an 0) ⟨hx, hb, hml, hown, htb⟩ (c_K_billsOf l D an kn h o u nb hnb hb6 j (by omega)) (cwV (C := R_K) 1 htb (gV tb_good mw_721 mw_723 mw_13 mw_31 mw_724) rfl rfl rfl (by decide +kernel) ⟨Nat.le_of_ble_eq_true rfl, Nat.le_of_ble_eq_true rfl⟩) hP hK (va_recv hK hP (ci := 4) (q0 := 0) rfl rfl) rfl hl.1 rfl (lv_room (Nat.le_of_ble_eq_true rfl)) d_K_seen_41 ⟨Nat.zero_le _, Nat.zero_le _⟩ ?_
        refine lv_icmp_lt (tgt := 51) hx hb d_K_seen_44 (by decide) (fun c4 => ?_) (fun c4 => ?_)
        · refine lv_iconst (v := 0) hx hb d_K_seen_51 (by decide) ?_
          refine va_put (D := D) (ci := 4) (v := .int 0) (ty := .int) (C := R_K) (T := F_K) (N := 22) hx hb htb iw_K t_K t_K_ok n_K hown hK hP hD hS 0 rfl rfl 0 (by decide) (htb _ mw_596) (fun _ h9 => h9) rfl (by decide +kernel) rfl rfl (Nat.le_of_ble_eq_true rfl) d_K_seen_52 (fun H locs hP hD hS => ?_)
          have hP : va_P D classes (wK an kn h o (upd u 0 0)) H := hP
          have hD : va_D A (wK an kn h o (upd u 0 0)) := hD
          refine lv_aload_n hx hb d_K_seen_55 rfl (lv_at hl 0 rfl) ?_
          refine va_get (D := D) (ci := 4) (v := .int 0) (C := R_K) (T := F_K) (N := 22) hx hb htb iw_K hown hK hP 0 rfl rfl 0 (by decide) (htb _ mw_596) (fun _ h9 => h9) rfl d_K_seen_56 ?_
          refine lv_if_le (tgt := 64) hx hb d_K_seen_59 (by decide) (fun c5 => ?_) (fun c5 => ?_)
          · refine lv_iconst (v := 0) hx hb d_K_seen_64 (by decide) ?_
            refine lv_istore_n (lv' := [(3, .int 0), (0, .ref (an 0)), (1, .int (nI j)), (2, .int (nI k))]) hx hb d_K_seen_65 rfl hl (by decide) rfl (fun ls hl => ?_)
            refine lv_iload_n hx hb d_K_seen_66 rfl (lv_at hl 2 rfl) ?_
            refine lv_istore (lv' := [(4, .int (nI j)), (3, .int 0), (0, .ref (an 0)), (1, .int (nI j)), (2, .int (nI k))]) hx hb d_K_seen_67 hl (by decide) rfl (fun ls hl => ?_)
            have lp69 : ∀ (n : Nat) (f : Nat) (pv sm : Int32), f + 1 ≤ n → 0 < f → (pv < 0 ∨ ∃ p9, p9 < nx ∧ pv = nI p9 ∧ rk p9 + 1 < f) → sumB h nx f pv sm = sumB h nx 61 (nI j) 0 → ∀ (ls : Array Slot), lv_has ls 6 [(0, .ref (an 0)), (1, .int (nI j)), (2, .int (nI k)), (3, .int sm), (4, .int pv)] → W p l e ({ frames := 3, cells := 0, slots := 0, locals := 66 } : Room) s m args below meth c H locs 0 0 Q (F0 m 69 ls []) := by
              intro n
              induction n with
              | zero => intro f pv sm hm hf0 hpv hf ls hl; exact absurd hm (by omega)
              | succ n ih =>
                intro f pv sm hm hf0 hpv hf ls hl
                refine lv_iload hx hb d_K_seen_69 (lv_at hl 4 rfl) ?_
                refine lv_if_lt (tgt := 95) hx hb d_K_seen_71 (by decide) (fun c6 => ?_) (fun c6 => ?_)
                · refine lv_iload_n hx hb d_K_seen_95 rfl (lv_at hl 2 rfl) ?_
                  refine lv_bipush (v := 10) hx hb d_K_seen_96 (by decide) ?_
                  refine lv_isub hx hb d_K_seen_98 ?_
                  refine lv_istore (lv' := [(4, .int ((nI k) - 10)), (0, .ref (an 0)), (1, .int (nI j)), (2, .int (nI k)), (3, .int sm)]) hx hb d_K_seen_99 hl (by decide) rfl (fun ls hl => ?_)
                  refine lv_iconst (v := 0) hx hb d_K_seen_101 (by decide) ?_
                  refine lv_istore (lv' := [(5, .int 0), (4, .int ((nI k) - 10)), (0, .ref (an 0)), (1, .int (nI j)), (2, .int (nI k)), (3, .int sm)]) hx hb d_K_seen_102 hl (by decide) rfl (fun ls hl => ?_)
                  refine lv_iload_n hx hb d_K_seen_104 rfl (lv_at hl 4 rfl) ?_
                  refine lv_bipush (v := 9) hx hb d_K_seen_105 (by decide) ?_
                  refine q_icmp_le (a := k) (b := 9) (tgt := 151) hx hb (by omega) (by omega) d_K_seen_107 (by decide) (fun c7 => ?_) (fun c7 => ?_)
                  · refine lv_iload_n hx hb d_K_seen_151 rfl (lv_at hl 4 rfl) ?_
                    rcases (show k = 0 ∨ k = 1 ∨ k = 2 ∨ k = 3 ∨ k = 4 ∨ k = 5 ∨ k = 6 ∨ k = 7 ∨ k = 8 ∨ k = 9 by omega) with rfl | rfl | rfl | rfl | rfl | rfl | rfl | rfl | rfl | rfl
                    · refine lv_tableIn (tgt := 208) hx hb d_K_seen_152 (by decide) (by decide) rfl (by decide) ?_
                      refine lv_aload_n hx hb d_K_seen_208 rfl (lv_at hl 2 rfl) ?_
                      refine va_get (D := D) (ci := 4) (v := .ref (an 9)) (C := R_K) (T := F_K) (N := 22) hx hb htb iw_K hown hK hP 0 rfl rfl 15 (by decide) (htb _ mw_611) (fun _ h9 => h9) rfl d_K_seen_209 ?_
                      refine lv_iload_n hx hb d_K_seen_212 rfl (lv_at hl 3 rfl) ?_
                      refine q_iald hx hb hK hP 9 8 rfl rfl j (by omega) (by decide) d_K_seen_213 ?_
                      exact hret _ _ _ _ _ rfl hP hS d_K_seen_214
                    · refine lv_tableIn (tgt := 215) hx hb d_K_seen_152 (by decide) (by decide) rfl (by decide) ?_
                      refine lv_aload_n hx hb d_K_seen_215 rfl (lv_at hl 2 rfl) ?_
                      refine va_get (D := D) (ci := 4) (v := .ref (an 10)) (C := R_K) (T := F_K) (N := 22) hx hb htb iw_K hown hK hP 0 rfl rfl 16 (by decide) (htb _ mw_612) (fun _ h9 => h9) rfl d_K_seen_216 ?_
                      refine lv_iload_n hx hb d_K_seen_219 rfl (lv_at hl 3 rfl) ?_
                      refine q_iald hx hb hK hP 10 9 rfl rfl j (by omega) (by decide) d_K_seen_220 ?_
                      exact hret _ _ _ _ _ rfl hP hS d_K_seen_221
                    · refine lv_tableIn (tgt := 222) hx hb d_K_seen_152 (by decide) (by decide) rfl (by decide) ?_
                      refine lv_aload_n hx hb d_K_seen_222 rfl (lv_at hl 2 rfl) ?_
                      refine va_get (D := D) (ci := 4) (v := .ref (an 11)) (C := R_K) (T := F_K) (N := 22) hx hb htb iw_K hown hK hP 0 rfl rfl 17 (by decide) (htb _ mw_613) (fun _ h9 => h9) rfl d_K_seen_223 ?_
                      refine lv_iload_n hx hb d_K_seen_226 rfl (lv_at hl 3 rfl) ?_
                      refine q_iald hx hb hK hP 11 10 rfl rfl j (by omega) (by decide) d_K_seen_227 ?_
                      exact hret _ _ _ _ _ rfl hP hS d_K_seen_228
                    · refine lv_tableIn (tgt := 229) hx hb d_K_seen_152 (by decide) (by decide) rfl (by decide) ?_
                      refine lv_aload_n hx hb d_K_seen_229 rfl (lv_at hl 2 rfl) ?_
                      refine va_get (D := D) (ci := 4) (v := .ref (an 12)) (C := R_K) (T := F_K) (N := 22) hx hb htb iw_K hown hK hP 0 rfl rfl 18 (by decide) (htb _ mw_614) (fun _ h9 => h9) rfl d_K_seen_230 ?_
                      refine lv_iload_n hx hb d_K_seen_233 rfl (lv_at hl 3 rfl) ?_
                      refine q_iald hx hb hK hP 12 11 rfl rfl j (by omega) (by decide) d_K_seen_234 ?_
                      exact hret _ _ _ _ _ rfl hP hS d_K_seen_235
                    · refine lv_tableIn (tgt := 236) hx hb d_K_seen_152 (by decide) (by decide) rfl (by decide) ?_
                      refine lv_aload_n hx hb d_K_seen_236 rfl (lv_at hl 2 rfl) ?_
                      refine lv_iload_n hx hb d_K_seen_237 rfl (lv_at hl 3 rfl) ?_
                      refine rdV (As := [.int (nI j)]) (rest := []) (b := an 0) ⟨hx, hb, hml, hown, htb⟩ (c_K_billsOf l D an kn h o (upd u 0 0) nb (show (upd u 0 0) 1 = nI nb from hnb) hb6 j (by omega)) (cwV (C := R_K) 1 htb (gV tb_good mw_721 mw_723 mw_13 mw_31 mw_724) rfl rfl rfl (by decide +kernel) ⟨Nat.le_of_ble_eq_true rfl, Nat.le_of_ble_eq_true rfl⟩) hP hK (va_recv hK hP (ci := 4) (q0 := 0) rfl rfl) rfl hl.1 rfl (lv_room (Nat.le_of_ble_eq_true rfl)) d_K_seen_238 ⟨Nat.zero_le _, Nat.zero_le _⟩ ?_
                      exact hret _ _ _ _ _ rfl hP hS d_K_seen_241
                    · refine lv_tableIn (tgt := 242) hx hb d_K_seen_152 (by decide) (by decide) rfl (by decide) ?_
                      refine lv_aload_n hx hb d_K_seen_242 rfl (lv_at hl 2 rfl) ?_
                      refine lv_iload_n hx hb d_K_seen_243 rfl (lv_at hl 3 rfl) ?_
                      refine rdV (As := [.int (nI j)]) (rest := []) (b := an 0) ⟨hx, hb, hml, hown, htb⟩ (c_K_waitsNow l D an kn h o (upd u 0 0) nb (show (upd u 0 0) 1 = nI nb from hnb) hb6 j (by omega)) (cwV (C := R_K) 1 htb (gV tb_good mw_805 mw_807 mw_24 mw_31 mw_808) rfl rfl rfl (by decide +kernel) ⟨Nat.le_of_ble_eq_true rfl, Nat.le_of_ble_eq_true rfl⟩) hP hK (va_recv hK hP (ci := 4) (q0 := 0) rfl rfl) rfl hl.1 rfl (lv_room (Nat.le_of_ble_eq_true rfl)) d_K_seen_244 ⟨Nat.zero_le _, Nat.zero_le _⟩ ?_
                      refine lv_if_eq (tgt := 254) hx hb d_K_seen_247 (by decide) (fun c8 => ?_) (fun c8 => ?_)
                      · replace c8 := bI_f c8
                        refine lv_iconst (v := 0) hx hb d_K_seen_254 (by decide) ?_
                        exact hret _ _ _ _ _ (by simp [seeK, bI, c1, c2, c3, c4, c5, c7, c8]) hP hS d_K_seen_255
                      · replace c8 := bI_t c8
                        refine lv_iconst (v := 1) hx hb d_K_seen_250 (by decide) ?_
                        refine lv_goto (tgt := 255) hx hb d_K_seen_251 (by decide) ?_
                        exact hret _ _ _ _ _ (by simp [seeK, bI, c1, c2, c3, c4, c5, c7, c8]) hP hS d_K_seen_255
                    · refine lv_tableIn (tgt := 256) hx hb d_K_seen_152 (by decide) (by decide) rfl (by decide) ?_
                      refine lv_aload_n hx hb d_K_seen_256 rfl (lv_at hl 2 rfl) ?_
                      refine va_get (D := D) (ci := 4) (v := .ref (an 13)) (C := R_K) (T := F_K) (N := 22) hx hb htb iw_K hown hK hP 0 rfl rfl 19 (by decide) (htb _ mw_615) (fun _ h9 => h9) rfl d_K_seen_257 ?_
                      refine lv_iload_n hx hb d_K_seen_260 rfl (lv_at hl 3 rfl) ?_
                      refine q_iald hx hb hK hP 13 12 rfl rfl j (by omega) (by decide) d_K_seen_261 ?_
                      exact hret _ _ _ _ _ rfl hP hS d_K_seen_262
                    · refine lv_tableIn (tgt := 263) hx hb d_K_seen_152 (by decide) (by decide) rfl (by decide) ?_
                      refine lv_aload_n hx hb d_K_seen_263 rfl (lv_at hl 2 rfl) ?_
                      refine va_get (D := D) (ci := 4) (v := .ref (an 14)) (C := R_K) (T := F_K) (N := 22) hx hb htb iw_K hown hK hP 0 rfl rfl 20 (by decide) (htb _ mw_616) (fun _ h9 => h9) rfl d_K_seen_264 ?_
                      refine lv_iload_n hx hb d_K_seen_267 rfl (lv_at hl 3 rfl) ?_
                      refine q_iald hx hb hK hP 14 13 rfl rfl j (by omega) (by decide) d_K_seen_268 ?_
                      exact hret _ _ _ _ _ rfl hP hS d_K_seen_269
                    · refine lv_tableIn (tgt := 270) hx hb d_K_seen_152 (by decide) (by decide) rfl (by decide) ?_
                      refine lv_aload_n hx hb d_K_seen_270 rfl (lv_at hl 2 rfl) ?_
                      refine lv_iload_n hx hb d_K_seen_271 rfl (lv_at hl 3 rfl) ?_
                      refine rdV (As := [.int (nI j)]) (rest := []) (b := an 0) ⟨hx, hb, hml, hown, htb⟩ (c_K_firstOf l D an kn h o (upd u 0 0) nx (show (upd u 0 0) 2 = nI nx from hnx) hx6 rk hrk j (by omega)) (cwV (C := R_K) 1 htb (gV tb_good mw_773 mw_775 mw_18 mw_31 mw_776) rfl rfl rfl (by decide +kernel) ⟨Nat.le_of_ble_eq_true rfl, Nat.le_of_ble_eq_true rfl⟩) hP hK (va_recv hK hP (ci := 4) (q0 := 0) rfl rfl) rfl hl.1 rfl (lv_room (Nat.le_of_ble_eq_true rfl)) d_K_seen_272 ⟨Nat.zero_le _, Nat.zero_le _⟩ ?_
                      exact hret _ _ _ _ _ rfl hP hS d_K_seen_275
                    · refine lv_tableIn (tgt := 276) hx hb d_K_seen_152 (by decide) (by decide) rfl (by decide) ?_
                      refine lv_iload_n hx hb d_K_seen_276 rfl (lv_at hl 5 rfl) ?_
                      exact hret _ _ _ _ _ (by show sm = sumB h nx 61 (nI j) 0; rw [← hf, sumB_neg hf0 c6]) hP hS d_K_seen_277
                  · exact absurd c7 (by omega)
                · obtain ⟨p9, hp9, rfl, hrp⟩ := hpv.resolve_left c6
                  obtain ⟨f, rfl⟩ : ∃ z, f = z + 1 := ⟨f - 1, by omega⟩
                  refine lv_iload_n hx hb d_K_seen_74 rfl (lv_at hl 3 rfl) ?_
                  refine lv_aload_n hx hb d_K_seen_75 rfl (lv_at hl 0 rfl) ?_
                  refine va_get (D := D) (ci := 4) (v := .ref (an 11)) (C := R_K) (T := F_K) (N := 22) hx hb htb iw_K hown hK hP 0 rfl rfl 17 (by decide) (htb _ mw_613) (fun _ h9 => h9) rfl d_K_seen_76 ?_
                  refine lv_iload hx hb d_K_seen_79 (lv_at hl 4 rfl) ?_
                  refine q_iald hx hb hK hP 11 10 rfl rfl p9 (by omega) (by decide) d_K_seen_81 ?_
                  refine lv_iadd hx hb d_K_seen_82 ?_
                  refine lv_istore_n (lv' := [(3, .int (sm + (h 11 p9))), (0, .ref (an 0)), (1, .int (nI j)), (2, .int (nI k)), (4, .int (nI p9))]) hx hb d_K_seen_83 rfl hl (by decide) rfl (fun ls hl => ?_)
                  refine lv_aload_n hx hb d_K_seen_84 rfl (lv_at hl 1 rfl) ?_
                  refine lv_iload hx hb d_K_seen_85 (lv_at hl 4 rfl) ?_
                  refine rdV (As := [.int (nI p9)]) (rest := []) (b := an 0) ⟨hx, hb, hml, hown, htb⟩ (c_K_previousOf l D an kn h o (upd u 0 0) nx (show (upd u 0 0) 2 = nI nx from hnx) hx6 (nI p9)) (cwV (C := R_K) 1 htb (gV tb_good mw_769 mw_771 mw_17 mw_31 mw_772) rfl rfl rfl (by decide +kernel) ⟨Nat.le_of_ble_eq_true rfl, Nat.le_of_ble_eq_true rfl⟩) hP hK (va_recv hK hP (ci := 4) (q0 := 0) rfl rfl) rfl hl.1 rfl (lv_room (Nat.le_of_ble_eq_true rfl)) d_K_seen_87 ⟨Nat.zero_le _, Nat.zero_le _⟩ ?_
                  refine lv_istore (lv' := [(4, .int (prvR h nx (nI p9))), (3, .int (sm + (h 11 p9))), (0, .ref (an 0)), (1, .int (nI j)), (2, .int (nI k))]) hx hb d_K_seen_90 hl (by decide) rfl (fun ls hl => ?_)
                  refine lv_goto (tgt := 69) hx hb d_K_seen_92 (by decide) ?_
                  exact ih f (prvR h nx (nI p9)) (sm + (h 11 p9)) (by omega) (by omega) (by
                    by_cases z1 : prvR h nx (nI p9) < 0
                    · exact Or.inl z1
                    · obtain ⟨j9, z2, -, z3⟩ := lasN_ix (P := fun k => decide (h 14 k = nI p9)) (n := nx) (by omega) z1
                      exact Or.inr ⟨j9, z2, z3, by have := (hrk p9 hp9).2 j9 z2 z3; omega⟩) (by rw [← hf]; show _ = (if nI p9 < 0 then sm else sumB h nx f (prvR h nx (nI p9)) (sm + h 11 (ix (nI p9)))); rw [if_neg (nI_pos (by omega)), ix_nI (by omega)]) _ (lv_sub hl [2, 3, 4, 1, 0] rfl)
            exact lp69 62 61 (nI j) 0 (by omega) (by omega) (Or.inr ⟨j, hj, rfl, by have := (hrk j hj).1; omega⟩) rfl _ (lv_sub hl [2, 3, 4, 1, 0] rfl)
          · exact absurd c5 (by decide)
        · first | (simp [hbl] at c4; done) | (simp [hbl] at c3; done) | (simp [hbl] at c2; done) | (simp [hbl] at c1; done) | (simp at c4; omega) | (exact absurd c4 (by omega)) | (simp at c3; omega) | (exact absurd c3 (by omega)) | (simp at c2; omega) | (exact absurd c2 (by omega)) | (simp at c1; omega) | (exact absurd c1 (by omega))
    · replace c2 := bI_f c2
      first | (simp [hin, hwh] at c2; done) | (simp [hin, hwh] at c1; done) | (simp at c2; omega) | (exact absurd c2 (by omega)) | (simp at c1; omega) | (exact absurd c1 (by omega))
set_option maxHeartbeats 4000000 in
set_option maxRecDepth 100000 in
theorem c_K_seenB (l : Launch) (D : va_G) (an : Nat → Nat) (kn : Nat → ClassId) (h : Nat → Nat → Int32) (o : Nat → Bool) (u : Nat → Int32) (nb : Nat) (hnb : u 1 = nI nb) (hb6 : nb ≤ 60) (nx : Nat) (hnx : u 2 = nI nx) (hx6 : nx ≤ 60) (rk : Nat → Nat) (hrk : rkOk h nx rk) (j : Nat) (hj : j < nx) (q m9 : Nat) (hm4 : m9 < 4) (hq : q < nb) (hpq : o (60 * j + q) = true) (hcq : cntN (fun b => o (60 * j + b)) q = m9) : WRi l y_K_seen (.code y_K_seen b_K_seen 6 (some .int) :: TB) ({ frames := 3, cells := 0, slots := 0, locals := 66 } : Room) [.ref (an 0), .int (nI j), .int (nI (m9 + 10))] D classes (wK an kn h o u) (wK an kn h o (upd u 0 0)) (tK kn) (nI q) := by
  refine wr_of (by decide +kernel) (rfl) (Nat.le_of_ble_eq_true rfl) ?_
  intro p e s m args below meth c Q ls A hx hb hml htb hown hP hK hD hS hA hl hret
  have hl : lv_has ls 6 [(0, .ref (an 0)), (1, .int (nI j)), (2, .int (nI (m9 + 10)))] := hl
  have hin : inN nx (nI j) = true := inN_nI hj (by omega)
  have hwh : inS (nI (m9 + 10)) 0 13 = true := inS_nI (b := 13) (by omega)
  have hbl : m9 < bofR o nb j := by
    have z1 : cntN (fun b => o (60 * j + b)) (q + 1) = cntN (fun b => o (60 * j + b)) q + 1 := cntN_t (P := (fun b => o (60 * j + b))) hpq
    have z2 := cntN_mono (P := (fun b => o (60 * j + b))) (show q + 1 ≤ nb by omega)
    show m9 < cntN (fun b => o (60 * j + b)) nb
    omega
  have hbl2 := bofR_le o nb j
  refine lv_aload_n hx hb d_K_seen_0 rfl (lv_at hl 0 rfl) ?_
  refine lv_aload_n hx hb d_K_seen_1 rfl (lv_at hl 0 rfl) ?_
  refine lv_iload_n hx hb d_K_seen_2 rfl (lv_at hl 1 rfl) ?_
  refine rdV (As := [.int (nI j)]) (rest := [.ref (an 0)]) (b := an 0) ⟨hx, hb, hml, hown, htb⟩ (c_K_isBox l D an kn h o u nx hnx hx6 (nI j)) (cwV (C := R_K) 1 htb (gV tb_good mw_713 mw_715 mw_11 mw_31 mw_716) rfl rfl rfl (by decide +kernel) ⟨Nat.le_of_ble_eq_true rfl, Nat.le_of_ble_eq_true rfl⟩) hP hK (va_recv hK hP (ci := 4) (q0 := 0) rfl rfl) rfl hl.1 rfl (lv_room (Nat.le_of_ble_eq_true rfl)) d_K_seen_3 ⟨Nat.zero_le _, Nat.zero_le _⟩ ?_
  refine lv_if_eq (tgt := 19) hx hb d_K_seen_6 (by decide) (fun c1 => ?_) (fun c1 => ?_)
  · replace c1 := bI_f c1
    first | (simp [hin, hwh] at c1; done) | (simp at c1; omega) | (exact absurd c1 (by omega))
  · replace c1 := bI_t c1
    refine lv_iload_n hx hb d_K_seen_9 rfl (lv_at hl 2 rfl) ?_
    refine lv_iconst (v := 0) hx hb d_K_seen_10 (by decide) ?_
    refine lv_bipush (v := 13) hx hb d_K_seen_11 (by decide) ?_
    refine rdS (As := [.int (nI (m9 + 10)), .int 0, .int 13]) (rest := [.ref (an 0)]) ⟨hx, hb, hml, hown, htb⟩ (c_K_in l D (wK an kn h o u) (tK kn) (nI (m9 + 10)) 0 13) (va_cwS 3 htb (gS tb_good mw_672 mw_673 mw_31 mw_674) rfl rfl rfl (by decide +kernel) ⟨Nat.le_of_ble_eq_true rfl, Nat.le_of_ble_eq_true rfl⟩) hP hK rfl hl.1 rfl (lv_room (Nat.le_of_ble_eq_true rfl)) d_K_seen_13 ⟨Nat.zero_le _, Nat.zero_le _⟩ ?_
    refine lv_if_ne (tgt := 23) hx hb d_K_seen_16 (by decide) (fun c2 => ?_) (fun c2 => ?_)
    · replace c2 := bI_t c2
      refine lv_iload_n hx hb d_K_seen_23 rfl (lv_at hl 2 rfl) ?_
      refine lv_bipush (v := 10) hx hb d_K_seen_24 (by decide) ?_
      refine lv_isub hx hb d_K_seen_26 ?_
      refine W.eq (congrArg (fun z => F0 m 27 ls (.int z :: [.ref (an 0)])) (show ((nI (m9 + 10)) - 10) = (nI m9) from (by rw [show (10 : Int32) = nI 10 from rfl, pk_sub (by omega), Nat.add_sub_cancel]))) ?_
      refine lv_aload_n hx hb d_K_seen_27 rfl (lv_at hl 0 rfl) ?_
      refine lv_aload_n hx hb d_K_seen_28 rfl (lv_at hl 0 rfl) ?_
      refine lv_iload_n hx hb d_K_seen_29 rfl (lv_at hl 1 rfl) ?_
      refine rdV (As := [.int (nI j)]) (rest := [.ref (an 0), .int (nI m9), .ref (an 0)]) (b := an 0) ⟨hx, hb, hml, hown, htb⟩ (c_K_isBox l D an kn h o u nx hnx hx6 (nI j)) (cwV (C := R_K) 1 htb (gV tb_good mw_713 mw_715 mw_11 mw_31 mw_716) rfl rfl rfl (by decide +kernel) ⟨Nat.le_of_ble_eq_true rfl, Nat.le_of_ble_eq_true rfl⟩) hP hK (va_recv hK hP (ci := 4) (q0 := 0) rfl rfl) rfl hl.1 rfl (lv_room (Nat.le_of_ble_eq_true rfl)) d_K_seen_30 ⟨Nat.zero_le _, Nat.zero_le _⟩ ?_
      refine lv_if_eq (tgt := 40) hx hb d_K_seen_33 (by decide) (fun c3 => ?_) (fun c3 => ?_)
      · replace c3 := bI_f c3
        rw [hin] at c3; exact absurd c3 (by decide)
      · replace c3 := bI_t c3
        refine lv_iload_n hx hb d_K_seen_36 rfl (lv_at hl 1 rfl) ?_
        refine lv_goto (tgt := 41) hx hb d_K_seen_37 (by decide) ?_
        refine rdV (As := [.int (nI j)]) (rest := [.int (nI m9), .ref (an 0)]) (b := an 0) ⟨hx, hb, hml, hown, htb⟩ (c_K_billsOf l D an kn h o u nb hnb hb6 j (by omega)) (cwV (C := R_K) 1 htb (gV tb_good mw_721 mw_723 mw_13 mw_31 mw_724) rfl rfl rfl (by decide +kernel) ⟨Nat.le_of_ble_eq_true rfl, Nat.le_of_ble_eq_true rfl⟩) hP hK (va_recv hK hP (ci := 4) (q0 := 0) rfl rfl) rfl hl.1 rfl (lv_room (Nat.le_of_ble_eq_true rfl)) d_K_seen_41 ⟨Nat.zero_le _, Nat.zero_le _⟩ ?_
        refine q_icmp_lt (a := m9) (b := (bofR o nb j)) (tgt := 51) hx hb (by omega) (by omega) d_K_seen_44 (by decide) (fun c4 => ?_) (fun c4 => ?_)
        · refine lv_iconst (v := 0) hx hb d_K_seen_51 (by decide) ?_
          refine va_put (D := D) (ci := 4) (v := .int 0) (ty := .int) (C := R_K) (T := F_K) (N := 22) hx hb htb iw_K t_K t_K_ok n_K hown hK hP hD hS 0 rfl rfl 0 (by decide) (htb _ mw_596) (fun _ h9 => h9) rfl (by decide +kernel) rfl rfl (Nat.le_of_ble_eq_true rfl) d_K_seen_52 (fun H locs hP hD hS => ?_)
          have hP : va_P D classes (wK an kn h o (upd u 0 0)) H := hP
          have hD : va_D A (wK an kn h o (upd u 0 0)) := hD
          refine lv_aload_n hx hb d_K_seen_55 rfl (lv_at hl 0 rfl) ?_
          refine va_get (D := D) (ci := 4) (v := .int 0) (C := R_K) (T := F_K) (N := 22) hx hb htb iw_K hown hK hP 0 rfl rfl 0 (by decide) (htb _ mw_596) (fun _ h9 => h9) rfl d_K_seen_56 ?_
          refine lv_if_le (tgt := 64) hx hb d_K_seen_59 (by decide) (fun c5 => ?_) (fun c5 => ?_)
          · refine lv_iconst (v := 0) hx hb d_K_seen_64 (by decide) ?_
            refine lv_istore_n (lv' := [(3, .int 0), (0, .ref (an 0)), (1, .int (nI j)), (2, .int (nI (m9 + 10)))]) hx hb d_K_seen_65 rfl hl (by decide) rfl (fun ls hl => ?_)
            refine lv_iload_n hx hb d_K_seen_66 rfl (lv_at hl 2 rfl) ?_
            refine lv_istore (lv' := [(4, .int (nI j)), (3, .int 0), (0, .ref (an 0)), (1, .int (nI j)), (2, .int (nI (m9 + 10)))]) hx hb d_K_seen_67 hl (by decide) rfl (fun ls hl => ?_)
            have lp69 : ∀ (n : Nat) (f : Nat) (pv sm : Int32), f + 1 ≤ n → 0 < f → (pv < 0 ∨ ∃ p9, p9 < nx ∧ pv = nI p9 ∧ rk p9 + 1 < f) → sumB h nx f pv sm = sumB h nx 61 (nI j) 0 → ∀ (ls : Array Slot), lv_has ls 6 [(0, .ref (an 0)), (1, .int (nI j)), (2, .int (nI (m9 + 10))), (3, .int sm), (4, .int pv)] → W p l e ({ frames := 3, cells := 0, slots := 0, locals := 66 } : Room) s m args below meth c H locs 0 0 Q (F0 m 69 ls []) := by
              intro n
              induction n with
              | zero => intro f pv sm hm hf0 hpv hf ls hl; exact absurd hm (by omega)
              | succ n ih =>
                intro f pv sm hm hf0 hpv hf ls hl
                refine lv_iload hx hb d_K_seen_69 (lv_at hl 4 rfl) ?_
                refine lv_if_lt (tgt := 95) hx hb d_K_seen_71 (by decide) (fun c6 => ?_) (fun c6 => ?_)
                · refine lv_iload_n hx hb d_K_seen_95 rfl (lv_at hl 2 rfl) ?_
                  refine lv_bipush (v := 10) hx hb d_K_seen_96 (by decide) ?_
                  refine lv_isub hx hb d_K_seen_98 ?_
                  refine W.eq (congrArg (fun z => F0 m 99 ls (.int z :: [])) (show ((nI (m9 + 10)) - 10) = (nI m9) from (by rw [show (10 : Int32) = nI 10 from rfl, pk_sub (by omega), Nat.add_sub_cancel]))) ?_
                  refine lv_istore (lv' := [(4, .int (nI m9)), (0, .ref (an 0)), (1, .int (nI j)), (2, .int (nI (m9 + 10))), (3, .int sm)]) hx hb d_K_seen_99 hl (by decide) rfl (fun ls hl => ?_)
                  refine lv_iconst (v := 0) hx hb d_K_seen_101 (by decide) ?_
                  refine lv_istore (lv' := [(5, .int 0), (4, .int (nI m9)), (0, .ref (an 0)), (1, .int (nI j)), (2, .int (nI (m9 + 10))), (3, .int sm)]) hx hb d_K_seen_102 hl (by decide) rfl (fun ls hl => ?_)
                  have lp104 : ∀ (n2 : Nat) (i lf : Nat), i ≤ q → q + 1 ≤ i + n2 → lf + cntN (fun b => o (60 * j + b)) i = m9 → ∀ (ls : Array Slot), lv_has ls 6 [(0, .ref (an 0)), (1, .int (nI j)), (2, .int (nI (m9 + 10))), (4, .int (nI lf)), (5, .int (nI i))] → W p l e ({ frames := 3, cells := 0, slots := 0, locals := 66 } : Room) s m args below meth c H locs 0 0 Q (F0 m 104 ls []) := by
                    intro n2
                    induction n2 with
                    | zero => intro i lf hi hm2 hlf ls hl; exact absurd hm2 (by omega)
                    | succ n2 ih2 =>
                      intro i lf hi hm2 hlf ls hl
                      refine lv_iload_n hx hb d_K_seen_104 rfl (lv_at hl 2 rfl) ?_
                      refine lv_bipush (v := 9) hx hb d_K_seen_105 (by decide) ?_
                      refine q_icmp_le (a := (m9 + 10)) (b := 9) (tgt := 151) hx hb (by omega) (by omega) d_K_seen_107 (by decide) (fun c7 => ?_) (fun c7 => ?_)
                      · exact absurd c7 (by omega)
                      · refine lv_aload_n hx hb d_K_seen_110 rfl (lv_at hl 0 rfl) ?_
                        refine lv_iload_n hx hb d_K_seen_111 rfl (lv_at hl 1 rfl) ?_
                        refine lv_iload hx hb d_K_seen_112 (lv_at hl 4 rfl) ?_
                        refine rdV (As := [.int (nI j), .int (nI i)]) (rest := []) (b := an 0) ⟨hx, hb, hml, hown, htb⟩ (c_K_stands l D an kn h o (upd u 0 0) j i (by omega) (by omega)) (cwV (C := R_K) 2 htb (gV tb_good mw_717 mw_719 mw_12 mw_31 mw_720) rfl rfl rfl (by decide +kernel) ⟨Nat.le_of_ble_eq_true rfl, Nat.le_of_ble_eq_true rfl⟩) hP hK (va_recv hK hP (ci := 4) (q0 := 0) rfl rfl) rfl hl.1 rfl (lv_room (Nat.le_of_ble_eq_true rfl)) d_K_seen_114 ⟨Nat.zero_le _, Nat.zero_le _⟩ ?_
                        refine lv_if_eq (tgt := 125) hx hb d_K_seen_117 (by decide) (fun c8 => ?_) (fun c8 => ?_)
                        · replace c8 := bI_f c8
                          have hkq : i < q := by
                            rcases Nat.lt_or_ge i q with z9 | z9
                            · exact z9
                            · rw [show i = q by omega, hpq] at c8; exact absurd c8 (by decide)
                          refine lv_iload hx hb d_K_seen_125 (lv_at hl 3 rfl) ?_
                          refine lv_aload_n hx hb d_K_seen_127 rfl (lv_at hl 0 rfl) ?_
                          refine lv_iload_n hx hb d_K_seen_128 rfl (lv_at hl 1 rfl) ?_
                          refine lv_iload hx hb d_K_seen_129 (lv_at hl 4 rfl) ?_
                          refine rdV (As := [.int (nI j), .int (nI i)]) (rest := [.int (nI lf)]) (b := an 0) ⟨hx, hb, hml, hown, htb⟩ (c_K_stands l D an kn h o (upd u 0 0) j i (by omega) (by omega)) (cwV (C := R_K) 2 htb (gV tb_good mw_717 mw_719 mw_12 mw_31 mw_720) rfl rfl rfl (by decide +kernel) ⟨Nat.le_of_ble_eq_true rfl, Nat.le_of_ble_eq_true rfl⟩) hP hK (va_recv hK hP (ci := 4) (q0 := 0) rfl rfl) rfl hl.1 rfl (lv_room (Nat.le_of_ble_eq_true rfl)) d_K_seen_131 ⟨Nat.zero_le _, Nat.zero_le _⟩ ?_
                          refine lv_if_eq (tgt := 141) hx hb d_K_seen_134 (by decide) (fun c9 => ?_) (fun c9 => ?_)
                          · replace c9 := bI_f c9
                            refine lv_iconst (v := 0) hx hb d_K_seen_141 (by decide) ?_
                            refine lv_isub hx hb d_K_seen_142 ?_
                            refine W.eq (congrArg (fun z => F0 m 143 ls (.int z :: [])) (show ((nI lf) - 0) = (nI lf) from Int32.sub_zero _)) ?_
                            refine lv_istore (lv' := [(4, .int (nI lf)), (0, .ref (an 0)), (1, .int (nI j)), (2, .int (nI (m9 + 10))), (5, .int (nI i))]) hx hb d_K_seen_143 hl (by decide) rfl (fun ls hl => ?_)
                            refine lv_iinc (v := (nI (i + 1))) (lv' := [(5, .int (nI (i + 1))), (4, .int (nI lf)), (0, .ref (an 0)), (1, .int (nI j)), (2, .int (nI (m9 + 10)))]) hx hb d_K_seen_145 hl (k := 4) rfl (q_inc _) (by decide) rfl (fun ls hl => ?_)
                            refine lv_goto (tgt := 104) hx hb d_K_seen_148 (by decide) ?_
                            exact ih2 (i + 1) lf (by omega) (by omega) (by rw [cntN_f (P := (fun b => o (60 * j + b))) c8]; exact hlf) _ (lv_sub hl [2, 3, 4, 1, 0] rfl)
                          · replace c9 := bI_t c9
                            rw [c8] at c9; exact absurd c9 (by decide)
                        · replace c8 := bI_t c8
                          have hct : cntN (fun b => o (60 * j + b)) (i + 1) = cntN (fun b => o (60 * j + b)) i + 1 := cntN_t (P := (fun b => o (60 * j + b))) c8
                          refine lv_iload hx hb d_K_seen_120 (lv_at hl 3 rfl) ?_
                          refine lv_if_le (tgt := 151) hx hb d_K_seen_122 (by decide) (fun c10 => ?_) (fun c10 => ?_)
                          · have hkq : i = q := by
                              rcases Nat.lt_or_ge i q with z9 | z9
                              · have z8 := cntN_mono (P := (fun b => o (60 * j + b))) (show i + 1 ≤ q by omega)
                                have z7 : lf = 0 := by
                                  rcases Nat.eq_zero_or_pos lf with z6 | z6
                                  · exact z6
                                  · exact absurd c10 (nI_nle z6 (by have := cntN_le (fun b => o (60 * j + b)) q; omega))
                                omega
                              · omega
                            refine lv_iload_n hx hb d_K_seen_151 rfl (lv_at hl 2 rfl) ?_
                            refine lv_tableOut (tgt := 278) hx hb d_K_seen_152 (Or.inr (by rw [nI_toInt (by omega)]; omega)) (by decide) ?_
                            refine lv_iload hx hb d_K_seen_278 (lv_at hl 4 rfl) ?_
                            exact hret _ _ _ _ _ (by rw [hkq]) hP hS d_K_seen_280
                          · have hlp : 0 < lf := by
                              rcases Nat.eq_zero_or_pos lf with z6 | z6
                              · exact absurd (by rw [z6]; decide) c10
                              · exact z6
                            have hkq : i < q := by
                              rcases Nat.lt_or_ge i q with z9 | z9
                              · exact z9
                              · rw [show i = q by omega] at hlf; omega
                            refine lv_iload hx hb d_K_seen_125 (lv_at hl 3 rfl) ?_
                            refine lv_aload_n hx hb d_K_seen_127 rfl (lv_at hl 0 rfl) ?_
                            refine lv_iload_n hx hb d_K_seen_128 rfl (lv_at hl 1 rfl) ?_
                            refine lv_iload hx hb d_K_seen_129 (lv_at hl 4 rfl) ?_
                            refine rdV (As := [.int (nI j), .int (nI i)]) (rest := [.int (nI lf)]) (b := an 0) ⟨hx, hb, hml, hown, htb⟩ (c_K_stands l D an kn h o (upd u 0 0) j i (by omega) (by omega)) (cwV (C := R_K) 2 htb (gV tb_good mw_717 mw_719 mw_12 mw_31 mw_720) rfl rfl rfl (by decide +kernel) ⟨Nat.le_of_ble_eq_true rfl, Nat.le_of_ble_eq_true rfl⟩) hP hK (va_recv hK hP (ci := 4) (q0 := 0) rfl rfl) rfl hl.1 rfl (lv_room (Nat.le_of_ble_eq_true rfl)) d_K_seen_131 ⟨Nat.zero_le _, Nat.zero_le _⟩ ?_
                            refine lv_if_eq (tgt := 141) hx hb d_K_seen_134 (by decide) (fun c11 => ?_) (fun c11 => ?_)
                            · replace c11 := bI_f c11
                              rw [c8] at c11; exact absurd c11 (by decide)
                            · replace c11 := bI_t c11
                              refine lv_iconst (v := 1) hx hb d_K_seen_137 (by decide) ?_
                              refine lv_goto (tgt := 142) hx hb d_K_seen_138 (by decide) ?_
                              refine lv_isub hx hb d_K_seen_142 ?_
                              refine W.eq (congrArg (fun z => F0 m 143 ls (.int z :: [])) (show ((nI lf) - 1) = (nI (lf - 1)) from pk_sub (a := lf) (b := 1) (by omega))) ?_
                              refine lv_istore (lv' := [(4, .int (nI (lf - 1))), (0, .ref (an 0)), (1, .int (nI j)), (2, .int (nI (m9 + 10))), (5, .int (nI i))]) hx hb d_K_seen_143 hl (by decide) rfl (fun ls hl => ?_)
                              refine lv_iinc (v := (nI (i + 1))) (lv' := [(5, .int (nI (i + 1))), (4, .int (nI (lf - 1))), (0, .ref (an 0)), (1, .int (nI j)), (2, .int (nI (m9 + 10)))]) hx hb d_K_seen_145 hl (k := 4) rfl (q_inc _) (by decide) rfl (fun ls hl => ?_)
                              refine lv_goto (tgt := 104) hx hb d_K_seen_148 (by decide) ?_
                              exact ih2 (i + 1) (lf - 1) (by omega) (by omega) (by rw [hct]; omega) _ (lv_sub hl [2, 3, 4, 1, 0] rfl)
                  exact lp104 (q + 1) 0 m9 (Nat.zero_le _) (by omega) rfl _ (lv_sub hl [2, 3, 4, 1, 0] rfl)
                · obtain ⟨p9, hp9, rfl, hrp⟩ := hpv.resolve_left c6
                  obtain ⟨f, rfl⟩ : ∃ z, f = z + 1 := ⟨f - 1, by omega⟩
                  refine lv_iload_n hx hb d_K_seen_74 rfl (lv_at hl 3 rfl) ?_
                  refine lv_aload_n hx hb d_K_seen_75 rfl (lv_at hl 0 rfl) ?_
                  refine va_get (D := D) (ci := 4) (v := .ref (an 11)) (C := R_K) (T := F_K) (N := 22) hx hb htb iw_K hown hK hP 0 rfl rfl 17 (by decide) (htb _ mw_613) (fun _ h9 => h9) rfl d_K_seen_76 ?_
                  refine lv_iload hx hb d_K_seen_79 (lv_at hl 4 rfl) ?_
                  refine q_iald hx hb hK hP 11 10 rfl rfl p9 (by omega) (by decide) d_K_seen_81 ?_
                  refine lv_iadd hx hb d_K_seen_82 ?_
                  refine lv_istore_n (lv' := [(3, .int (sm + (h 11 p9))), (0, .ref (an 0)), (1, .int (nI j)), (2, .int (nI (m9 + 10))), (4, .int (nI p9))]) hx hb d_K_seen_83 rfl hl (by decide) rfl (fun ls hl => ?_)
                  refine lv_aload_n hx hb d_K_seen_84 rfl (lv_at hl 1 rfl) ?_
                  refine lv_iload hx hb d_K_seen_85 (lv_at hl 4 rfl) ?_
                  refine rdV (As := [.int (nI p9)]) (rest := []) (b := an 0) ⟨hx, hb, hml, hown, htb⟩ (c_K_previousOf l D an kn h o (upd u 0 0) nx (show (upd u 0 0) 2 = nI nx from hnx) hx6 (nI p9)) (cwV (C := R_K) 1 htb (gV tb_good mw_769 mw_771 mw_17 mw_31 mw_772) rfl rfl rfl (by decide +kernel) ⟨Nat.le_of_ble_eq_true rfl, Nat.le_of_ble_eq_true rfl⟩) hP hK (va_recv hK hP (ci := 4) (q0 := 0) rfl rfl) rfl hl.1 rfl (lv_room (Nat.le_of_ble_eq_true rfl)) d_K_seen_87 ⟨Nat.zero_le _, Nat.zero_le _⟩ ?_
                  refine lv_istore (lv' := [(4, .int (prvR h nx (nI p9))), (3, .int (sm + (h 11 p9))), (0, .ref (an 0)), (1, .int (nI j)), (2, .int (nI (m9 + 10)))]) hx hb d_K_seen_90 hl (by decide) rfl (fun ls hl => ?_)
                  refine lv_goto (tgt := 69) hx hb d_K_seen_92 (by decide) ?_
                  exact ih f (prvR h nx (nI p9)) (sm + (h 11 p9)) (by omega) (by omega) (by
                    by_cases z1 : prvR h nx (nI p9) < 0
                    · exact Or.inl z1
                    · obtain ⟨j9, z2, -, z3⟩ := lasN_ix (P := fun k => decide (h 14 k = nI p9)) (n := nx) (by omega) z1
                      exact Or.inr ⟨j9, z2, z3, by have := (hrk p9 hp9).2 j9 z2 z3; omega⟩) (by rw [← hf]; show _ = (if nI p9 < 0 then sm else sumB h nx f (prvR h nx (nI p9)) (sm + h 11 (ix (nI p9)))); rw [if_neg (nI_pos (by omega)), ix_nI (by omega)]) _ (lv_sub hl [2, 3, 4, 1, 0] rfl)
            exact lp69 62 61 (nI j) 0 (by omega) (by omega) (Or.inr ⟨j, hj, rfl, by have := (hrk j hj).1; omega⟩) rfl _ (lv_sub hl [2, 3, 4, 1, 0] rfl)
          · exact absurd c5 (by decide)
        · first | (simp [hbl] at c4; done) | (simp [hbl] at c3; done) | (simp [hbl] at c2; done) | (simp [hbl] at c1; done) | (simp at c4; omega) | (exact absurd c4 (by omega)) | (simp at c3; omega) | (exact absurd c3 (by omega)) | (simp at c2; omega) | (exact absurd c2 (by omega)) | (simp at c1; omega) | (exact absurd c1 (by omega))
    · replace c2 := bI_f c2
      first | (simp [hin, hwh] at c2; done) | (simp [hin, hwh] at c1; done) | (simp at c2; omega) | (exact absurd c2 (by omega)) | (simp at c1; omega) | (exact absurd c1 (by omega))
set_option maxHeartbeats 4000000 in
set_option maxRecDepth 100000 in
theorem c_K_split (l : Launch) (D : va_G) (an : Nat → Nat) (kn : Nat → ClassId) (h : Nat → Nat → Int32) (o : Nat → Bool) (u : Nat → Int32) (nb : Nat) (hnb : u 1 = nI nb) (hb6 : nb ≤ 60) (nl : Nat) (hnl : u 3 = nI nl) (hl2 : nl ≤ 200) (hlt : nb < 60) (hlt2 : nl < 200) (k : Nat) (hk : k < nb) (w : Int32) (hw1 : 1 ≤ w) (n9 s9 : Nat) (hnn : h 2 k = nI n9) (hs0 : n9 < s9) (hs1 : s9 ≤ 100000000) (hfree : numR h nb (h 1 k) (nI s9) < 0) (hbel : ∀ t, n9 < t → t < s9 → ¬ numR h nb (h 1 k) (nI t) < 0) : WRi l y_K_split (.code y_K_split b_K_split 8 (some .int) :: TB) ({ frames := 2, cells := 0, slots := 0, locals := 46 } : Room) [.ref (an 0), .int (nI k), .int w] D classes (wK an kn h o u) (wK an kn (if splK h nb nl k w s9 = true then spH h nb nl k w s9 else h) o (if splK h nb nl k w s9 = true then upd (upd (upd u 0 0) 1 (nI nb + 1)) 3 (nI nl + 1) else upd u 0 0)) (tK kn) (if splK h nb nl k w s9 = true then nI nb else -1) := by
  refine wr_of (by decide +kernel) (rfl) (Nat.le_of_ble_eq_true rfl) ?_
  intro p e s m args below meth c Q ls A hx hb hml htb hown hP hK hD hS hA hl hret
  have hl : lv_has ls 8 [(0, .ref (an 0)), (1, .int (nI k)), (2, .int w)] := hl
  have hin : inN nb (nI k) = true := inN_nI hk (by omega)
  have hlo2 : lofR h nl (nI k) ≤ nl := cntN_le _ _
  refine lv_aload_n hx hb d_K_split_0 rfl (lv_at hl 0 rfl) ?_
  refine lv_aload_n hx hb d_K_split_1 rfl (lv_at hl 0 rfl) ?_
  refine lv_iload_n hx hb d_K_split_2 rfl (lv_at hl 1 rfl) ?_
  refine rdV (As := [.int (nI k)]) (rest := [.ref (an 0)]) (b := an 0) ⟨hx, hb, hml, hown, htb⟩ (c_K_isBill l D an kn h o u nb hnb hb6 (nI k)) (cwV (C := R_K) 1 htb (gV tb_good mw_680 mw_682 mw_6 mw_31 mw_683) rfl rfl rfl (by decide +kernel) ⟨Nat.le_of_ble_eq_true rfl, Nat.le_of_ble_eq_true rfl⟩) hP hK (va_recv hK hP (ci := 4) (q0 := 0) rfl rfl) rfl hl.1 rfl (lv_room (Nat.le_of_ble_eq_true rfl)) d_K_split_3 ⟨Nat.zero_le _, Nat.zero_le _⟩ ?_
  refine lv_if_eq (tgt := 14) hx hb d_K_split_6 (by decide) (fun c1 => ?_) (fun c1 => ?_)
  · replace c1 := bI_f c1
    first | (simp [hin, hw1] at c1; done) | (simp at c1; omega) | (exact absurd c1 (by omega))
  · replace c1 := bI_t c1
    refine lv_iload_n hx hb d_K_split_9 rfl (lv_at hl 2 rfl) ?_
    refine lv_iconst (v := 1) hx hb d_K_split_10 (by decide) ?_
    refine lv_icmp_ge (tgt := 18) hx hb d_K_split_11 (by decide) (fun c2 => ?_) (fun c2 => ?_)
    · refine lv_aload_n hx hb d_K_split_18 rfl (lv_at hl 0 rfl) ?_
      refine va_get (D := D) (ci := 4) (v := .int (nI nb)) (C := R_K) (T := F_K) (N := 22) hx hb htb iw_K hown hK hP 0 rfl rfl 1 (by decide) (htb _ mw_597) (fun _ h9 => h9) (congrArg (fun x => some (Value.int x)) hnb) d_K_split_19 ?_
      refine lv_bipush (v := 60) hx hb d_K_split_22 (by decide) ?_
      refine q_icmp_eq (a := nb) (b := 60) (tgt := 37) hx hb (by omega) (by omega) d_K_split_24 (by decide) (fun c3 => ?_) (fun c3 => ?_)
      · first | (simp [] at c3; done) | (simp [] at c2; done) | (simp [] at c1; done) | (simp at c3; omega) | (exact absurd c3 (by omega)) | (simp at c2; omega) | (exact absurd c2 (by omega)) | (simp at c1; omega) | (exact absurd c1 (by omega))
      · refine lv_aload_n hx hb d_K_split_27 rfl (lv_at hl 0 rfl) ?_
        refine va_get (D := D) (ci := 4) (v := .int (nI nl)) (C := R_K) (T := F_K) (N := 22) hx hb htb iw_K hown hK hP 0 rfl rfl 3 (by decide) (htb _ mw_599) (fun _ h9 => h9) (congrArg (fun x => some (Value.int x)) hnl) d_K_split_28 ?_
        refine lv_sipush (v := 200) hx hb d_K_split_31 (by decide) ?_
        refine q_icmp_ne (a := nl) (b := 200) (tgt := 41) hx hb (by omega) (by omega) d_K_split_34 (by decide) (fun c4 => ?_) (fun c4 => ?_)
        · refine lv_iconst (v := 0) hx hb d_K_split_41 (by decide) ?_
          refine va_put (D := D) (ci := 4) (v := .int 0) (ty := .int) (C := R_K) (T := F_K) (N := 22) hx hb htb iw_K t_K t_K_ok n_K hown hK hP hD hS 0 rfl rfl 0 (by decide) (htb _ mw_596) (fun _ h9 => h9) rfl (by decide +kernel) rfl rfl (Nat.le_of_ble_eq_true rfl) d_K_split_42 (fun H locs hP hD hS => ?_)
          have hP : va_P D classes (wK an kn h o (upd u 0 0)) H := hP
          have hD : va_D A (wK an kn h o (upd u 0 0)) := hD
          refine lv_aload_n hx hb d_K_split_45 rfl (lv_at hl 0 rfl) ?_
          refine va_get (D := D) (ci := 4) (v := .int 0) (C := R_K) (T := F_K) (N := 22) hx hb htb iw_K hown hK hP 0 rfl rfl 0 (by decide) (htb _ mw_596) (fun _ h9 => h9) rfl d_K_split_46 ?_
          refine lv_if_le (tgt := 54) hx hb d_K_split_49 (by decide) (fun c5 => ?_) (fun c5 => ?_)
          · refine lv_aload_n hx hb d_K_split_54 rfl (lv_at hl 0 rfl) ?_
            refine va_get (D := D) (ci := 4) (v := .ref (an 2)) (C := R_K) (T := F_K) (N := 22) hx hb htb iw_K hown hK hP 0 rfl rfl 8 (by decide) (htb _ mw_604) (fun _ h9 => h9) rfl d_K_split_55 ?_
            refine lv_iload_n hx hb d_K_split_58 rfl (lv_at hl 1 rfl) ?_
            refine q_iald hx hb hK hP 2 1 rfl rfl k (by omega) (by decide) d_K_split_59 ?_
            refine W.eq (congrArg (fun z => F0 m 60 ls (.int z :: [])) (show (h 2 k) = (nI n9) from hnn)) ?_
            refine lv_iconst (v := 1) hx hb d_K_split_60 (by decide) ?_
            refine lv_iadd hx hb d_K_split_61 ?_
            refine W.eq (congrArg (fun z => F0 m 62 ls (.int z :: [])) (show ((nI n9) + 1) = (nI (n9 + 1)) from nI_1 _)) ?_
            refine lv_istore_n (lv' := [(3, .int (nI (n9 + 1))), (0, .ref (an 0)), (1, .int (nI k)), (2, .int w)]) hx hb d_K_split_62 rfl hl (by decide) rfl (fun ls hl => ?_)
            have lp63 : ∀ (n : Nat) (t : Nat), n9 < t → t ≤ s9 → s9 + 1 ≤ t + n → ∀ (ls : Array Slot), lv_has ls 8 [(0, .ref (an 0)), (1, .int (nI k)), (2, .int w), (3, .int (nI t))] → W p l e ({ frames := 2, cells := 0, slots := 0, locals := 46 } : Room) s m args below meth c H locs 0 0 Q (F0 m 63 ls []) := by
              intro n
              induction n with
              | zero => intro t ht0 ht1 hm ls hl; exact absurd hm (by omega)
              | succ n ih =>
                intro t ht0 ht1 hm ls hl
                refine lv_aload_n hx hb d_K_split_63 rfl (lv_at hl 0 rfl) ?_
                refine lv_aload_n hx hb d_K_split_64 rfl (lv_at hl 0 rfl) ?_
                refine va_get (D := D) (ci := 4) (v := .ref (an 1)) (C := R_K) (T := F_K) (N := 22) hx hb htb iw_K hown hK hP 0 rfl rfl 7 (by decide) (htb _ mw_603) (fun _ h9 => h9) rfl d_K_split_65 ?_
                refine lv_iload_n hx hb d_K_split_68 rfl (lv_at hl 1 rfl) ?_
                refine q_iald hx hb hK hP 1 0 rfl rfl k (by omega) (by decide) d_K_split_69 ?_
                refine lv_iload_n hx hb d_K_split_70 rfl (lv_at hl 3 rfl) ?_
                refine rdV (As := [.int (h 1 k), .int (nI t)]) (rest := []) (b := an 0) ⟨hx, hb, hml, hown, htb⟩ (c_K_numbered l D an kn h o (upd u 0 0) nb (show (upd u 0 0) 1 = nI nb from hnb) hb6 (h 1 k) (nI t)) (cwV (C := R_K) 2 htb (gV tb_good mw_676 mw_678 mw_5 mw_31 mw_679) rfl rfl rfl (by decide +kernel) ⟨Nat.le_of_ble_eq_true rfl, Nat.le_of_ble_eq_true rfl⟩) hP hK (va_recv hK hP (ci := 4) (q0 := 0) rfl rfl) rfl hl.1 rfl (lv_room (Nat.le_of_ble_eq_true rfl)) d_K_split_71 ⟨Nat.zero_le _, Nat.zero_le _⟩ ?_
                refine lv_if_lt (tgt := 83) hx hb d_K_split_74 (by decide) (fun c6 => ?_) (fun c6 => ?_)
                · have hts : t = s9 := by
                    rcases Nat.lt_or_ge t s9 with z9 | z9
                    · exact absurd c6 (hbel t (by omega) z9)
                    · omega
                  rw [hts] at hl
                  refine lv_iload_n hx hb d_K_split_83 rfl (lv_at hl 2 rfl) ?_
                  refine lv_aload_n hx hb d_K_split_84 rfl (lv_at hl 0 rfl) ?_
                  refine lv_iload_n hx hb d_K_split_85 rfl (lv_at hl 1 rfl) ?_
                  refine rdV (As := [.int (nI k)]) (rest := [.int w]) (b := an 0) ⟨hx, hb, hml, hown, htb⟩ (c_K_weightOf l D an kn h o (upd u 0 0) nl (show (upd u 0 0) 3 = nI nl from hnl) hl2 (nI k)) (cwV (C := R_K) 1 htb (gV tb_good mw_756 mw_758 mw_15 mw_31 mw_759) rfl rfl rfl (by decide +kernel) ⟨Nat.le_of_ble_eq_true rfl, Nat.le_of_ble_eq_true rfl⟩) hP hK (va_recv hK hP (ci := 4) (q0 := 0) rfl rfl) rfl hl.1 rfl (lv_room (Nat.le_of_ble_eq_true rfl)) d_K_split_86 ⟨Nat.zero_le _, Nat.zero_le _⟩ ?_
                  refine lv_icmp_ge (tgt := 115) hx hb d_K_split_89 (by decide) (fun c7 => ?_) (fun c7 => ?_)
                  · refine lv_iconst (v := (-1)) hx hb d_K_split_115 (by decide) ?_
                    exact hret _ _ _ _ _ (by simp [splK, c1, c2, if_neg c3, if_neg c4, c5, c6, c7]) (by rw [show splK h nb nl k w s9 = false by simp [splK, c1, c2, if_neg c3, if_neg c4, c5, c6, c7]]; exact hP) hS d_K_split_116
                  · refine lv_aload_n hx hb d_K_split_92 rfl (lv_at hl 0 rfl) ?_
                    refine lv_iload_n hx hb d_K_split_93 rfl (lv_at hl 1 rfl) ?_
                    refine rdV (As := [.int (nI k)]) (rest := []) (b := an 0) ⟨hx, hb, hml, hown, htb⟩ (c_K_belowOf l D an kn h o (upd u 0 0) nb (show (upd u 0 0) 1 = nI nb from hnb) hb6 (nI k)) (cwV (C := R_K) 1 htb (gV tb_good mw_760 mw_762 mw_16 mw_31 mw_763) rfl rfl rfl (by decide +kernel) ⟨Nat.le_of_ble_eq_true rfl, Nat.le_of_ble_eq_true rfl⟩) hP hK (va_recv hK hP (ci := 4) (q0 := 0) rfl rfl) rfl hl.1 rfl (lv_room (Nat.le_of_ble_eq_true rfl)) d_K_split_94 ⟨Nat.zero_le _, Nat.zero_le _⟩ ?_
                    refine lv_if_gt (tgt := 115) hx hb d_K_split_97 (by decide) (fun c8 => ?_) (fun c8 => ?_)
                    · refine lv_iconst (v := (-1)) hx hb d_K_split_115 (by decide) ?_
                      exact hret _ _ _ _ _ (by simp [splK, c1, c2, if_neg c3, if_neg c4, c5, c6, c7, c8]) (by rw [show splK h nb nl k w s9 = false by simp [splK, c1, c2, if_neg c3, if_neg c4, c5, c6, c7, c8]]; exact hP) hS d_K_split_116
                    · refine lv_aload_n hx hb d_K_split_100 rfl (lv_at hl 0 rfl) ?_
                      refine va_get (D := D) (ci := 4) (v := .ref (an 5)) (C := R_K) (T := F_K) (N := 22) hx hb htb iw_K hown hK hP 0 rfl rfl 11 (by decide) (htb _ mw_607) (fun _ h9 => h9) rfl d_K_split_101 ?_
                      refine lv_iload_n hx hb d_K_split_104 rfl (lv_at hl 1 rfl) ?_
                      refine q_iald hx hb hK hP 5 4 rfl rfl k (by omega) (by decide) d_K_split_105 ?_
                      refine lv_if_gt (tgt := 115) hx hb d_K_split_106 (by decide) (fun c9 => ?_) (fun c9 => ?_)
                      · refine lv_iconst (v := (-1)) hx hb d_K_split_115 (by decide) ?_
                        exact hret _ _ _ _ _ (by simp [splK, c1, c2, if_neg c3, if_neg c4, c5, c6, c7, c8, c9]) (by rw [show splK h nb nl k w s9 = false by simp [splK, c1, c2, if_neg c3, if_neg c4, c5, c6, c7, c8, c9]]; exact hP) hS d_K_split_116
                      · refine lv_iload_n hx hb d_K_split_109 rfl (lv_at hl 3 rfl) ?_
                        refine lv_ldc (v := 100000000) hx hb hown (htb _ mw_764) d_K_split_110 ?_
                        refine q_icmp_ne (a := s9) (b := 100000000) (tgt := 117) hx hb (by omega) (by omega) d_K_split_112 (by decide) (fun c10 => ?_) (fun c10 => ?_)
                        · refine lv_iload_n hx hb d_K_split_117 rfl (lv_at hl 2 rfl) ?_
                          refine lv_istore (lv' := [(4, .int w), (0, .ref (an 0)), (1, .int (nI k)), (2, .int w), (3, .int (nI s9))]) hx hb d_K_split_118 hl (by decide) rfl (fun ls hl => ?_)
                          refine lv_aload_n hx hb d_K_split_120 rfl (lv_at hl 1 rfl) ?_
                          refine lv_iload_n hx hb d_K_split_121 rfl (lv_at hl 2 rfl) ?_
                          refine rdV (As := [.int (nI k)]) (rest := []) (b := an 0) ⟨hx, hb, hml, hown, htb⟩ (c_K_linesOf l D an kn h o (upd u 0 0) nl (show (upd u 0 0) 3 = nI nl from hnl) hl2 (nI k)) (cwV (C := R_K) 1 htb (gV tb_good mw_701 mw_703 mw_10 mw_31 mw_704) rfl rfl rfl (by decide +kernel) ⟨Nat.le_of_ble_eq_true rfl, Nat.le_of_ble_eq_true rfl⟩) hP hK (va_recv hK hP (ci := 4) (q0 := 0) rfl rfl) rfl hl.1 rfl (lv_room (Nat.le_of_ble_eq_true rfl)) d_K_split_122 ⟨Nat.zero_le _, Nat.zero_le _⟩ ?_
                          refine lv_iconst (v := 1) hx hb d_K_split_125 (by decide) ?_
                          refine lv_isub hx hb d_K_split_126 ?_
                          refine lv_istore (lv' := [(5, .int ((nI (lofR h nl (nI k))) - 1)), (4, .int w), (0, .ref (an 0)), (1, .int (nI k)), (2, .int w), (3, .int (nI s9))]) hx hb d_K_split_127 hl (by decide) rfl (fun ls hl => ?_)
                          have lp129 : ∀ (n2 : Nat) (r : Nat) (lf : Int32) (h1 : Nat → Nat → Int32) (H : Heap) (locs : List Loc), r ≤ lofR h nl (nI k) → r + 1 ≤ n2 → h1 6 = h 6 → spK (nI k) nl r lf h1 = spK (nI k) nl (lofR h nl (nI k)) w h → va_P D classes (wK an kn h1 o (upd u 0 0)) H → va_D A (wK an kn h1 o (upd u 0 0)) → va_S A s.heap H locs → ∀ (ls : Array Slot), lv_has ls 8 [(0, .ref (an 0)), (1, .int (nI k)), (2, .int w), (3, .int (nI s9)), (4, .int lf), (5, .int (rwI r))] → W p l e ({ frames := 2, cells := 0, slots := 0, locals := 46 } : Room) s m args below meth c H locs 0 0 Q (F0 m 129 ls []) := by
                            intro n2
                            induction n2 with
                            | zero => intro r lf h1 H locs hir hm2 hsix hfs hP hD hS ls hl; exact absurd hm2 (by omega)
                            | succ n2 ih2 =>
                              intro r lf h1 H locs hir hm2 hsix hfs hP hD hS ls hl
                              refine lv_iload hx hb d_K_split_129 (lv_at hl 5 rfl) ?_
                              refine lv_if_lt (tgt := 194) hx hb d_K_split_131 (by decide) (fun c11 => ?_) (fun c11 => ?_)
                              · have hz : r = 0 := rwI_neg (by omega) c11
                                subst hz
                                have hh : h1 = spK (nI k) nl (lofR h nl (nI k)) w h := hfs
                                subst hh
                                refine lv_aload_n hx hb d_K_split_194 rfl (lv_at hl 0 rfl) ?_
                                refine lv_aload_n hx hb d_K_split_195 rfl (lv_at hl 0 rfl) ?_
                                refine va_get (D := D) (ci := 4) (v := .ref (an 1)) (C := R_K) (T := F_K) (N := 22) hx hb htb iw_K hown hK hP 0 rfl rfl 7 (by decide) (htb _ mw_603) (fun _ h9 => h9) rfl d_K_split_196 ?_
                                refine lv_iload_n hx hb d_K_split_199 rfl (lv_at hl 1 rfl) ?_
                                refine q_iald hx hb hK hP 1 0 rfl rfl k (by omega) (by decide) d_K_split_200 ?_
                                refine W.eq (congrArg (fun z => F0 m 201 ls (.int z :: [.ref (an 0)])) (show ((spK (nI k) nl (lofR h nl (nI k)) w h) 1 k) = (h 1 k) from (congrFun (spK_at (j := 1) (by decide) _ _ h) k))) ?_
                                refine lv_iload_n hx hb d_K_split_201 rfl (lv_at hl 3 rfl) ?_
                                refine lv_aload_n hx hb d_K_split_202 rfl (lv_at hl 0 rfl) ?_
                                refine va_get (D := D) (ci := 4) (v := .ref (an 3)) (C := R_K) (T := F_K) (N := 22) hx hb htb iw_K hown hK hP 0 rfl rfl 9 (by decide) (htb _ mw_605) (fun _ h9 => h9) rfl d_K_split_203 ?_
                                refine lv_iload_n hx hb d_K_split_206 rfl (lv_at hl 1 rfl) ?_
                                refine q_iald hx hb hK hP 3 2 rfl rfl k (by omega) (by decide) d_K_split_207 ?_
                                refine W.eq (congrArg (fun z => F0 m 208 ls (.int z :: [.int (nI s9), .int (h 1 k), .ref (an 0)])) (show ((spK (nI k) nl (lofR h nl (nI k)) w h) 3 k) = (h 3 k) from (congrFun (spK_at (j := 3) (by decide) _ _ h) k))) ?_
                                refine wrV (As := [.int (h 1 k), .int (nI s9), .int (h 3 k)]) (rest := []) (b := an 0) ⟨hx, hb, hml, hown, htb⟩ (c_K_make l D an kn (spK (nI k) nl (lofR h nl (nI k)) w h) o (upd u 0 0) nb (show (upd u 0 0) 1 = nI nb from hnb) hb6 (by omega) (h 1 k) (nI s9) (h 3 k)) (cwV (C := R_K) 3 htb (gV tb_good mw_688 mw_690 mw_8 mw_31 mw_691) rfl rfl rfl (by decide +kernel) ⟨Nat.le_of_ble_eq_true rfl, Nat.le_of_ble_eq_true rfl⟩) hP hK hD hS hA (va_recv hK hP (ci := 4) (q0 := 0) rfl rfl) rfl hl.1 rfl (lv_room (Nat.le_of_ble_eq_true rfl)) d_K_split_208 ⟨Nat.zero_le _, Nat.zero_le _⟩ (fun H locs hP hS => ?_)
                                have hP : va_P D classes (wK an kn (makR (spK (nI k) nl (lofR h nl (nI k)) w h) nb (h 1 k) (nI s9) (h 3 k)) o (upd (upd u 0 0) 1 (nI nb + 1))) H := hP
                                have hD : va_D A (wK an kn (makR (spK (nI k) nl (lofR h nl (nI k)) w h) nb (h 1 k) (nI s9) (h 3 k)) o (upd (upd u 0 0) 1 (nI nb + 1))) := wK_D hD
                                refine lv_istore (lv' := [(5, .int (nI nb)), (0, .ref (an 0)), (1, .int (nI k)), (2, .int w), (3, .int (nI s9)), (4, .int lf)]) hx hb d_K_split_211 hl (by decide) rfl (fun ls hl => ?_)
                                refine lv_aload_n hx hb d_K_split_213 rfl (lv_at hl 1 rfl) ?_
                                refine va_get (D := D) (ci := 4) (v := .ref (an 4)) (C := R_K) (T := F_K) (N := 22) hx hb htb iw_K hown hK hP 0 rfl rfl 10 (by decide) (htb _ mw_606) (fun _ h9 => h9) rfl d_K_split_214 ?_
                                refine lv_iload hx hb d_K_split_217 (lv_at hl 0 rfl) ?_
                                refine lv_aload_n hx hb d_K_split_219 rfl (lv_at hl 1 rfl) ?_
                                refine va_get (D := D) (ci := 4) (v := .ref (an 4)) (C := R_K) (T := F_K) (N := 22) hx hb htb iw_K hown hK hP 0 rfl rfl 10 (by decide) (htb _ mw_606) (fun _ h9 => h9) rfl d_K_split_220 ?_
                                refine lv_iload_n hx hb d_K_split_223 rfl (lv_at hl 2 rfl) ?_
                                refine q_iald hx hb hK hP 4 3 rfl rfl k (by omega) (by decide) d_K_split_224 ?_
                                refine W.eq (congrArg (fun z => F0 m 225 ls (.int z :: [.int (nI nb), .ref (an 4)])) (show ((makR (spK (nI k) nl (lofR h nl (nI k)) w h) nb (h 1 k) (nI s9) (h 3 k)) 4 k) = (h 4 k) from (congrFun (spK_at (j := 4) (by decide) _ _ h) k))) ?_
                                refine q_iast hx hb hK hP hD hS 4 3 rfl rfl nb (x := (h 4 k)) (by omega) (by decide) d_K_split_225 (fun H locs hP hD hS => ?_)
                                have hP : va_P D classes (wK an kn (up (makR (spK (nI k) nl (lofR h nl (nI k)) w h) nb (h 1 k) (nI s9) (h 3 k)) 4 nb (h 4 k)) o (upd (upd u 0 0) 1 (nI nb + 1))) H := hP
                                have hD : va_D A (wK an kn (up (makR (spK (nI k) nl (lofR h nl (nI k)) w h) nb (h 1 k) (nI s9) (h 3 k)) 4 nb (h 4 k)) o (upd (upd u 0 0) 1 (nI nb + 1))) := hD
                                refine lv_aload_n hx hb d_K_split_226 rfl (lv_at hl 1 rfl) ?_
                                refine lv_iload hx hb d_K_split_227 (lv_at hl 0 rfl) ?_
                                refine lv_iload_n hx hb d_K_split_229 rfl (lv_at hl 3 rfl) ?_
                                refine lv_iconst (v := 0) hx hb d_K_split_230 (by decide) ?_
                                refine wrV (As := [.int (nI nb), .int w, .int 0]) (rest := []) (b := an 0) ⟨hx, hb, hml, hown, htb⟩ (c_K_add l D an kn (up (makR (spK (nI k) nl (lofR h nl (nI k)) w h) nb (h 1 k) (nI s9) (h 3 k)) 4 nb (h 4 k)) o (upd (upd u 0 0) 1 (nI nb + 1)) nl (show (upd (upd u 0 0) 1 (nI nb + 1)) 3 = nI nl from hnl) hl2 (by omega) (nI nb) w 0) (cwV (C := R_K) 3 htb (gV tb_good mw_697 mw_699 mw_9 mw_31 mw_700) rfl rfl rfl (by decide +kernel) ⟨Nat.le_of_ble_eq_true rfl, Nat.le_of_ble_eq_true rfl⟩) hP hK hD hS hA (va_recv hK hP (ci := 4) (q0 := 0) rfl rfl) rfl hl.1 rfl (lv_room (Nat.le_of_ble_eq_true rfl)) d_K_split_231 ⟨Nat.zero_le _, Nat.zero_le _⟩ (fun H locs hP hS => ?_)
                                have hP : va_P D classes (wK an kn (adlR (up (makR (spK (nI k) nl (lofR h nl (nI k)) w h) nb (h 1 k) (nI s9) (h 3 k)) 4 nb (h 4 k)) nl (nI nb) w 0) o (upd (upd (upd u 0 0) 1 (nI nb + 1)) 3 (nI nl + 1))) H := hP
                                have hD : va_D A (wK an kn (adlR (up (makR (spK (nI k) nl (lofR h nl (nI k)) w h) nb (h 1 k) (nI s9) (h 3 k)) 4 nb (h 4 k)) nl (nI nb) w 0) o (upd (upd (upd u 0 0) 1 (nI nb + 1)) 3 (nI nl + 1))) := wK_D hD
                                refine lv_istore (lv' := [(6, .int (nI (lofR (adlR (up (makR (spK (nI k) nl (lofR h nl (nI k)) w h) nb (h 1 k) (nI s9) (h 3 k)) 4 nb (h 4 k)) nl (nI nb) w 0) (nl + 1) (nI nb)) - 1)), (5, .int (nI nb)), (0, .ref (an 0)), (1, .int (nI k)), (2, .int w), (3, .int (nI s9)), (4, .int lf)]) hx hb d_K_split_234 hl (by decide) rfl (fun ls hl => ?_)
                                refine lv_iload hx hb d_K_split_236 (lv_at hl 1 rfl) ?_
                                exact hret _ _ _ _ _ (by simp [splK, c1, c2, if_neg c3, if_neg c4, c5, c6, c7, c8, c9, if_neg c10, c11]) (by rw [show splK h nb nl k w s9 = true by simp [splK, c1, c2, if_neg c3, if_neg c4, c5, c6, c7, c8, c9, if_neg c10, c11]]; exact hP) hS d_K_split_238
                              · obtain ⟨i, rfl⟩ := rwI_pos c11
                                rw [rwI_s] at hl
                                have h6 : h1 6 = h 6 := hsix
                                obtain ⟨z1, z2, z3⟩ := lnAt_ok (P := fun z => decide (h1 6 z = nI k)) (i := i) (n := nl) (by rw [h6]; exact hir)
                                obtain ⟨q, eq⟩ : ∃ q, q = lnAt (fun z => decide (h1 6 z = nI k)) i nl := ⟨_, rfl⟩
                                rw [← eq] at z1 z2 z3
                                have z4 : h1 6 q = nI k := by simpa using z2
                                refine lv_aload_n hx hb d_K_split_134 rfl (lv_at hl 0 rfl) ?_
                                refine lv_iload_n hx hb d_K_split_135 rfl (lv_at hl 1 rfl) ?_
                                refine lv_iload hx hb d_K_split_136 (lv_at hl 5 rfl) ?_
                                refine rdV (As := [.int (nI k), .int (nI i)]) (rest := []) (b := an 0) ⟨hx, hb, hml, hown, htb⟩ (c_K_lineAt l D an kn h1 o (upd u 0 0) nl (show (upd u 0 0) 3 = nI nl from hnl) hl2 (nI k) q i z1 z4 z3) (cwV (C := R_K) 2 htb (gV tb_good mw_737 mw_739 mw_14 mw_31 mw_740) rfl rfl rfl (by decide +kernel) ⟨Nat.le_of_ble_eq_true rfl, Nat.le_of_ble_eq_true rfl⟩) hP hK (va_recv hK hP (ci := 4) (q0 := 0) rfl rfl) rfl hl.1 rfl (lv_room (Nat.le_of_ble_eq_true rfl)) d_K_split_138 ⟨Nat.zero_le _, Nat.zero_le _⟩ ?_
                                refine lv_istore (lv' := [(6, .int (nI q)), (0, .ref (an 0)), (1, .int (nI k)), (2, .int w), (3, .int (nI s9)), (4, .int lf), (5, .int (nI i))]) hx hb d_K_split_141 hl (by decide) rfl (fun ls hl => ?_)
                                refine lv_aload_n hx hb d_K_split_143 rfl (lv_at hl 1 rfl) ?_
                                refine va_get (D := D) (ci := 4) (v := .ref (an 7)) (C := R_K) (T := F_K) (N := 22) hx hb htb iw_K hown hK hP 0 rfl rfl 13 (by decide) (htb _ mw_609) (fun _ h9 => h9) rfl d_K_split_144 ?_
                                refine lv_iload hx hb d_K_split_147 (lv_at hl 0 rfl) ?_
                                refine q_iald hx hb hK hP 7 6 rfl rfl q (by omega) (by decide) d_K_split_149 ?_
                                refine lv_iload hx hb d_K_split_150 (lv_at hl 5 rfl) ?_
                                refine lv_icmp_ge (tgt := 165) hx hb d_K_split_152 (by decide) (fun c12 => ?_) (fun c12 => ?_)
                                · refine lv_iload hx hb d_K_split_165 (lv_at hl 5 rfl) ?_
                                  refine lv_istore (lv' := [(7, .int lf), (6, .int (nI q)), (0, .ref (an 0)), (1, .int (nI k)), (2, .int w), (3, .int (nI s9)), (4, .int lf), (5, .int (nI i))]) hx hb d_K_split_167 hl (by decide) rfl (fun ls hl => ?_)
                                  refine lv_aload_n hx hb d_K_split_169 rfl (lv_at hl 2 rfl) ?_
                                  refine va_get (D := D) (ci := 4) (v := .ref (an 7)) (C := R_K) (T := F_K) (N := 22) hx hb htb iw_K hown hK hP 0 rfl rfl 13 (by decide) (htb _ mw_609) (fun _ h9 => h9) rfl d_K_split_170 ?_
                                  refine lv_iload hx hb d_K_split_173 (lv_at hl 1 rfl) ?_
                                  refine lv_dup2_11 hx hb d_K_split_175 rfl rfl ?_
                                  refine q_iald hx hb hK hP 7 6 rfl rfl q (by omega) (by decide) d_K_split_176 ?_
                                  refine lv_iload hx hb d_K_split_177 (lv_at hl 0 rfl) ?_
                                  refine lv_isub hx hb d_K_split_179 ?_
                                  refine q_iast hx hb hK hP hD hS 7 6 rfl rfl q (x := ((h1 7 q) - lf)) (by omega) (by decide) d_K_split_180 (fun H locs hP hD hS => ?_)
                                  have hP : va_P D classes (wK an kn (up h1 7 q ((h1 7 q) - lf)) o (upd u 0 0)) H := hP
                                  have hD : va_D A (wK an kn (up h1 7 q ((h1 7 q) - lf)) o (upd u 0 0)) := hD
                                  refine lv_iload hx hb d_K_split_181 (lv_at hl 6 rfl) ?_
                                  refine lv_iload hx hb d_K_split_183 (lv_at hl 0 rfl) ?_
                                  refine lv_isub hx hb d_K_split_185 ?_
                                  refine lv_istore (lv' := [(4, .int (lf - lf)), (7, .int lf), (6, .int (nI q)), (0, .ref (an 0)), (1, .int (nI k)), (2, .int w), (3, .int (nI s9)), (5, .int (nI i))]) hx hb d_K_split_186 hl (by decide) rfl (fun ls hl => ?_)
                                  refine lv_iinc (v := (rwI i)) (lv' := [(5, .int (rwI i)), (4, .int (lf - lf)), (7, .int lf), (6, .int (nI q)), (0, .ref (an 0)), (1, .int (nI k)), (2, .int w), (3, .int (nI s9))]) hx hb d_K_split_188 hl (k := 7) rfl (rwI_dec i) (by decide) rfl (fun ls hl => ?_)
                                  refine lv_goto (tgt := 129) hx hb d_K_split_191 (by decide) ?_
                                  exact ih2 i (lf - lf) (up h1 7 q ((h1 7 q) - lf)) H locs (by omega) (by omega) (by show (if _ then _ else _) = _; exact hsix) (by rw [← hfs]; show _ = spK (nI k) nl i (lf - (if lf ≤ h1 7 (lnAt (fun k_1 => decide (h1 6 k_1 = nI k)) i nl) then lf else h1 7 (lnAt (fun k_1 => decide (h1 6 k_1 = nI k)) i nl))) (up h1 7 (lnAt (fun k_1 => decide (h1 6 k_1 = nI k)) i nl) (h1 7 (lnAt (fun k_1 => decide (h1 6 k_1 = nI k)) i nl) - (if lf ≤ h1 7 (lnAt (fun k_1 => decide (h1 6 k_1 = nI k)) i nl) then lf else h1 7 (lnAt (fun k_1 => decide (h1 6 k_1 = nI k)) i nl)))); rw [← eq, if_pos c12]) hP hD hS _ (lv_sub hl [4, 5, 6, 7, 1, 0] rfl)
                                · refine lv_aload_n hx hb d_K_split_155 rfl (lv_at hl 1 rfl) ?_
                                  refine va_get (D := D) (ci := 4) (v := .ref (an 7)) (C := R_K) (T := F_K) (N := 22) hx hb htb iw_K hown hK hP 0 rfl rfl 13 (by decide) (htb _ mw_609) (fun _ h9 => h9) rfl d_K_split_156 ?_
                                  refine lv_iload hx hb d_K_split_159 (lv_at hl 0 rfl) ?_
                                  refine q_iald hx hb hK hP 7 6 rfl rfl q (by omega) (by decide) d_K_split_161 ?_
                                  refine lv_goto (tgt := 167) hx hb d_K_split_162 (by decide) ?_
                                  refine lv_istore (lv' := [(7, .int (h1 7 q)), (6, .int (nI q)), (0, .ref (an 0)), (1, .int (nI k)), (2, .int w), (3, .int (nI s9)), (4, .int lf), (5, .int (nI i))]) hx hb d_K_split_167 hl (by decide) rfl (fun ls hl => ?_)
                                  refine lv_aload_n hx hb d_K_split_169 rfl (lv_at hl 2 rfl) ?_
                                  refine va_get (D := D) (ci := 4) (v := .ref (an 7)) (C := R_K) (T := F_K) (N := 22) hx hb htb iw_K hown hK hP 0 rfl rfl 13 (by decide) (htb _ mw_609) (fun _ h9 => h9) rfl d_K_split_170 ?_
                                  refine lv_iload hx hb d_K_split_173 (lv_at hl 1 rfl) ?_
                                  refine lv_dup2_11 hx hb d_K_split_175 rfl rfl ?_
                                  refine q_iald hx hb hK hP 7 6 rfl rfl q (by omega) (by decide) d_K_split_176 ?_
                                  refine lv_iload hx hb d_K_split_177 (lv_at hl 0 rfl) ?_
                                  refine lv_isub hx hb d_K_split_179 ?_
                                  refine q_iast hx hb hK hP hD hS 7 6 rfl rfl q (x := ((h1 7 q) - (h1 7 q))) (by omega) (by decide) d_K_split_180 (fun H locs hP hD hS => ?_)
                                  have hP : va_P D classes (wK an kn (up h1 7 q ((h1 7 q) - (h1 7 q))) o (upd u 0 0)) H := hP
                                  have hD : va_D A (wK an kn (up h1 7 q ((h1 7 q) - (h1 7 q))) o (upd u 0 0)) := hD
                                  refine lv_iload hx hb d_K_split_181 (lv_at hl 6 rfl) ?_
                                  refine lv_iload hx hb d_K_split_183 (lv_at hl 0 rfl) ?_
                                  refine lv_isub hx hb d_K_split_185 ?_
                                  refine lv_istore (lv' := [(4, .int (lf - (h1 7 q))), (7, .int (h1 7 q)), (6, .int (nI q)), (0, .ref (an 0)), (1, .int (nI k)), (2, .int w), (3, .int (nI s9)), (5, .int (nI i))]) hx hb d_K_split_186 hl (by decide) rfl (fun ls hl => ?_)
                                  refine lv_iinc (v := (rwI i)) (lv' := [(5, .int (rwI i)), (4, .int (lf - (h1 7 q))), (7, .int (h1 7 q)), (6, .int (nI q)), (0, .ref (an 0)), (1, .int (nI k)), (2, .int w), (3, .int (nI s9))]) hx hb d_K_split_188 hl (k := 7) rfl (rwI_dec i) (by decide) rfl (fun ls hl => ?_)
                                  refine lv_goto (tgt := 129) hx hb d_K_split_191 (by decide) ?_
                                  exact ih2 i (lf - (h1 7 q)) (up h1 7 q ((h1 7 q) - (h1 7 q))) H locs (by omega) (by omega) (by show (if _ then _ else _) = _; exact hsix) (by rw [← hfs]; show _ = spK (nI k) nl i (lf - (if lf ≤ h1 7 (lnAt (fun k_1 => decide (h1 6 k_1 = nI k)) i nl) then lf else h1 7 (lnAt (fun k_1 => decide (h1 6 k_1 = nI k)) i nl))) (up h1 7 (lnAt (fun k_1 => decide (h1 6 k_1 = nI k)) i nl) (h1 7 (lnAt (fun k_1 => decide (h1 6 k_1 = nI k)) i nl) - (if lf ≤ h1 7 (lnAt (fun k_1 => decide (h1 6 k_1 = nI k)) i nl) then lf else h1 7 (lnAt (fun k_1 => decide (h1 6 k_1 = nI k)) i nl)))); rw [← eq, if_neg c12]) hP hD hS _ (lv_sub hl [4, 5, 6, 7, 1, 0] rfl)
                          exact lp129 (lofR h nl (nI k) + 1) (lofR h nl (nI k)) w h H locs (Nat.le_refl _) (Nat.le_refl _) rfl rfl hP hD hS _ (lv_sub hl [2, 3, 4, 5, 1, 0] rfl)
                        · refine lv_iconst (v := (-1)) hx hb d_K_split_115 (by decide) ?_
                          exact hret _ _ _ _ _ (by simp [splK, c1, c2, if_neg c3, if_neg c4, c5, c6, c7, c8, c9, if_pos c10]) (by rw [show splK h nb nl k w s9 = false by simp [splK, c1, c2, if_neg c3, if_neg c4, c5, c6, c7, c8, c9, if_pos c10]]; exact hP) hS d_K_split_116
                · have hts : t < s9 := by
                    rcases Nat.lt_or_ge t s9 with z9 | z9
                    · exact z9
                    · rw [show t = s9 by omega] at c6; exact absurd hfree c6
                  refine lv_iinc (v := (nI (t + 1))) (lv' := [(3, .int (nI (t + 1))), (0, .ref (an 0)), (1, .int (nI k)), (2, .int w)]) hx hb d_K_split_77 hl (k := 3) rfl (q_inc _) (by decide) rfl (fun ls hl => ?_)
                  refine lv_goto (tgt := 63) hx hb d_K_split_80 (by decide) ?_
                  exact ih (t + 1) (by omega) (by omega) (by omega) _ (lv_sub hl [1, 2, 3, 0] rfl)
            exact lp63 (s9 + 1) (n9 + 1) (by omega) (by omega) (by omega) _ (lv_sub hl [1, 2, 3, 0] rfl)
          · exact absurd c5 (by decide)
        · first | (simp [] at c4; done) | (simp [] at c3; done) | (simp [] at c2; done) | (simp [] at c1; done) | (simp at c4; omega) | (exact absurd c4 (by omega)) | (simp at c3; omega) | (exact absurd c3 (by omega)) | (simp at c2; omega) | (exact absurd c2 (by omega)) | (simp at c1; omega) | (exact absurd c1 (by omega))
    · first | (simp [hin, hw1] at c2; done) | (simp [hin, hw1] at c1; done) | (simp at c2; omega) | (exact absurd c2 (by omega)) | (simp at c1; omega) | (exact absurd c1 (by omega))
