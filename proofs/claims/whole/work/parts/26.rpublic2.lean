set_option maxHeartbeats 4000000 in
set_option maxRecDepth 100000 in
theorem c_K_bill (l : Launch) (D : va_G) (an : Nat → Nat) (kn : Nat → ClassId) (h : Nat → Nat → Int32) (o : Nat → Bool) (u : Nat → Int32) (nb : Nat) (hnb : u 1 = nI nb) (hb6 : nb ≤ 60) (hlt : nb < 60) (hab : abvOk (h 3) nb) (x y a : Int32) (hc : inS x 0 3 = true) (hn : inS y 0 99999999 = true) : WRi l y_K_bill (.code y_K_bill b_K_bill 4 (some .int) :: TB) ({ frames := 1, cells := 0, slots := 0, locals := 24 } : Room) [.ref (an 0), .int x, .int y, .int a] D classes (wK an kn h o u) (wK an kn (if bilK h nb x y a = true then makR h nb x y a else h) o (if bilK h nb x y a = true then upd (upd u 0 0) 1 (nI nb + 1) else upd u 0 0)) (tK kn) (if bilK h nb x y a = true then nI nb else -1) := by
  refine wr_of (by decide +kernel) (rfl) (Nat.le_of_ble_eq_true rfl) ?_
  intro p e s m args below meth c Q ls A hx hb hml htb hown hP hK hD hS hA hl hret
  have hl : lv_has ls 4 [(0, .ref (an 0)), (1, .int x), (2, .int y), (3, .int a)] := hl
  refine lv_aload_n hx hb d_K_bill_0 rfl (lv_at hl 0 rfl) ?_
  refine lv_iload_n hx hb d_K_bill_1 rfl (lv_at hl 1 rfl) ?_
  refine lv_iconst (v := 0) hx hb d_K_bill_2 (by decide) ?_
  refine lv_iconst (v := 3) hx hb d_K_bill_3 (by decide) ?_
  refine rdS (As := [.int x, .int 0, .int 3]) (rest := [.ref (an 0)]) ⟨hx, hb, hml, hown, htb⟩ (c_K_in l D (wK an kn h o u) (tK kn) x 0 3) (va_cwS 3 htb (gS tb_good mw_672 mw_673 mw_31 mw_674) rfl rfl rfl (by decide +kernel) ⟨Nat.le_of_ble_eq_true rfl, Nat.le_of_ble_eq_true rfl⟩) hP hK rfl hl.1 rfl (lv_room (Nat.le_of_ble_eq_true rfl)) d_K_bill_4 ⟨Nat.zero_le _, Nat.zero_le _⟩ ?_
  refine lv_if_eq (tgt := 20) hx hb d_K_bill_7 (by decide) (fun c1 => ?_) (fun c1 => ?_)
  · replace c1 := bI_f c1
    first | (simp [hc, hn] at c1; done) | (simp at c1; omega) | (exact absurd c1 (by omega))
  · replace c1 := bI_t c1
    refine lv_iload_n hx hb d_K_bill_10 rfl (lv_at hl 2 rfl) ?_
    refine lv_iconst (v := 0) hx hb d_K_bill_11 (by decide) ?_
    refine lv_ldc (v := 99999999) hx hb hown (htb _ mw_675) d_K_bill_12 ?_
    refine rdS (As := [.int y, .int 0, .int 99999999]) (rest := [.ref (an 0)]) ⟨hx, hb, hml, hown, htb⟩ (c_K_in l D (wK an kn h o u) (tK kn) y 0 99999999) (va_cwS 3 htb (gS tb_good mw_672 mw_673 mw_31 mw_674) rfl rfl rfl (by decide +kernel) ⟨Nat.le_of_ble_eq_true rfl, Nat.le_of_ble_eq_true rfl⟩) hP hK rfl hl.1 rfl (lv_room (Nat.le_of_ble_eq_true rfl)) d_K_bill_14 ⟨Nat.zero_le _, Nat.zero_le _⟩ ?_
    refine lv_if_ne (tgt := 24) hx hb d_K_bill_17 (by decide) (fun c2 => ?_) (fun c2 => ?_)
    · replace c2 := bI_t c2
      refine lv_aload_n hx hb d_K_bill_24 rfl (lv_at hl 0 rfl) ?_
      refine va_get (D := D) (ci := 4) (v := .int (nI nb)) (C := R_K) (T := F_K) (N := 22) hx hb htb iw_K hown hK hP 0 rfl rfl 1 (by decide) (htb _ mw_597) (fun _ h9 => h9) (congrArg (fun x => some (Value.int x)) hnb) d_K_bill_25 ?_
      refine lv_bipush (v := 60) hx hb d_K_bill_28 (by decide) ?_
      refine q_icmp_ne (a := nb) (b := 60) (tgt := 37) hx hb (by omega) (by omega) d_K_bill_30 (by decide) (fun c3 => ?_) (fun c3 => ?_)
      · refine lv_iconst (v := 0) hx hb d_K_bill_37 (by decide) ?_
        refine va_put (D := D) (ci := 4) (v := .int 0) (ty := .int) (C := R_K) (T := F_K) (N := 22) hx hb htb iw_K t_K t_K_ok n_K hown hK hP hD hS 0 rfl rfl 0 (by decide) (htb _ mw_596) (fun _ h9 => h9) rfl (by decide +kernel) rfl rfl (Nat.le_of_ble_eq_true rfl) d_K_bill_38 (fun H locs hP hD hS => ?_)
        have hP : va_P D classes (wK an kn h o (upd u 0 0)) H := hP
        have hD : va_D A (wK an kn h o (upd u 0 0)) := hD
        refine lv_aload_n hx hb d_K_bill_41 rfl (lv_at hl 0 rfl) ?_
        refine va_get (D := D) (ci := 4) (v := .int 0) (C := R_K) (T := F_K) (N := 22) hx hb htb iw_K hown hK hP 0 rfl rfl 0 (by decide) (htb _ mw_596) (fun _ h9 => h9) rfl d_K_bill_42 ?_
        refine lv_if_le (tgt := 50) hx hb d_K_bill_45 (by decide) (fun c4 => ?_) (fun c4 => ?_)
        · refine lv_aload_n hx hb d_K_bill_50 rfl (lv_at hl 0 rfl) ?_
          refine lv_iload_n hx hb d_K_bill_51 rfl (lv_at hl 1 rfl) ?_
          refine lv_iload_n hx hb d_K_bill_52 rfl (lv_at hl 2 rfl) ?_
          refine rdV (As := [.int x, .int y]) (rest := []) (b := an 0) ⟨hx, hb, hml, hown, htb⟩ (c_K_numbered l D an kn h o (upd u 0 0) nb (show (upd u 0 0) 1 = nI nb from hnb) hb6 x y) (cwV (C := R_K) 2 htb (gV tb_good mw_676 mw_678 mw_5 mw_31 mw_679) rfl rfl rfl (by decide +kernel) ⟨Nat.le_of_ble_eq_true rfl, Nat.le_of_ble_eq_true rfl⟩) hP hK (va_recv hK hP (ci := 4) (q0 := 0) rfl rfl) rfl hl.1 rfl (lv_room (Nat.le_of_ble_eq_true rfl)) d_K_bill_53 ⟨Nat.zero_le _, Nat.zero_le _⟩ ?_
          refine lv_if_ge (tgt := 72) hx hb d_K_bill_56 (by decide) (fun c5 => ?_) (fun c5 => ?_)
          · refine lv_iconst (v := (-1)) hx hb d_K_bill_72 (by decide) ?_
            exact hret _ _ _ _ _ (by simp [bilK, c1, c2, c3, c4, c5]) (by rw [show bilK h nb x y a = false by simp [bilK, c1, c2, c3, c4, c5]]; exact hP) hS d_K_bill_73
          · refine lv_iload_n hx hb d_K_bill_59 rfl (lv_at hl 3 rfl) ?_
            refine lv_iconst (v := (-1)) hx hb d_K_bill_60 (by decide) ?_
            refine lv_icmp_eq (tgt := 74) hx hb d_K_bill_61 (by decide) (fun c6 => ?_) (fun c6 => ?_)
            · subst c6
              refine lv_iload_n hx hb d_K_bill_74 rfl (lv_at hl 3 rfl) ?_
              refine lv_if_lt (tgt := 108) hx hb d_K_bill_75 (by decide) (fun c7 => ?_) (fun c7 => ?_)
              · refine lv_aload_n hx hb d_K_bill_108 rfl (lv_at hl 0 rfl) ?_
                refine lv_iload_n hx hb d_K_bill_109 rfl (lv_at hl 1 rfl) ?_
                refine lv_iload_n hx hb d_K_bill_110 rfl (lv_at hl 2 rfl) ?_
                refine lv_iload_n hx hb d_K_bill_111 rfl (lv_at hl 3 rfl) ?_
                refine wrV (As := [.int x, .int y, .int (-1)]) (rest := []) (b := an 0) ⟨hx, hb, hml, hown, htb⟩ (c_K_make l D an kn h o (upd u 0 0) nb (show (upd u 0 0) 1 = nI nb from hnb) hb6 (by omega) x y (-1)) (cwV (C := R_K) 3 htb (gV tb_good mw_688 mw_690 mw_8 mw_31 mw_691) rfl rfl rfl (by decide +kernel) ⟨Nat.le_of_ble_eq_true rfl, Nat.le_of_ble_eq_true rfl⟩) hP hK hD hS hA (va_recv hK hP (ci := 4) (q0 := 0) rfl rfl) rfl hl.1 rfl (lv_room (Nat.le_of_ble_eq_true rfl)) d_K_bill_112 ⟨Nat.zero_le _, Nat.zero_le _⟩ (fun H locs hP hS => ?_)
                have hP : va_P D classes (wK an kn (makR h nb x y (-1)) o (upd (upd u 0 0) 1 (nI nb + 1))) H := hP
                have hD : va_D A (wK an kn (makR h nb x y (-1)) o (upd (upd u 0 0) 1 (nI nb + 1))) := wK_D hD
                exact hret _ _ _ _ _ (by simp [bilK, c1, c2, c3, c4, c5, c7]) (by rw [show bilK h nb x y (-1) = true by simp [bilK, c1, c2, c3, c4, c5, c7]]; exact hP) hS d_K_bill_115
              · exact absurd c7 (by decide)
            · refine lv_aload_n hx hb d_K_bill_64 rfl (lv_at hl 0 rfl) ?_
              refine lv_iload_n hx hb d_K_bill_65 rfl (lv_at hl 3 rfl) ?_
              refine rdV (As := [.int a]) (rest := []) (b := an 0) ⟨hx, hb, hml, hown, htb⟩ (c_K_isBill l D an kn h o (upd u 0 0) nb (show (upd u 0 0) 1 = nI nb from hnb) hb6 a) (cwV (C := R_K) 1 htb (gV tb_good mw_680 mw_682 mw_6 mw_31 mw_683) rfl rfl rfl (by decide +kernel) ⟨Nat.le_of_ble_eq_true rfl, Nat.le_of_ble_eq_true rfl⟩) hP hK (va_recv hK hP (ci := 4) (q0 := 0) rfl rfl) rfl hl.1 rfl (lv_room (Nat.le_of_ble_eq_true rfl)) d_K_bill_66 ⟨Nat.zero_le _, Nat.zero_le _⟩ ?_
              refine lv_if_ne (tgt := 74) hx hb d_K_bill_69 (by decide) (fun c8 => ?_) (fun c8 => ?_)
              · replace c8 := bI_t c8
                obtain ⟨k, hk, rfl⟩ := inN_ix c8 (by omega)
                have ek : ix (nI k) = k := ix_nI (by omega)
                have mk : ¬ nI k = -1 := nI_nm1 (by omega)
                refine lv_iload_n hx hb d_K_bill_74 rfl (lv_at hl 3 rfl) ?_
                refine lv_if_lt (tgt := 108) hx hb d_K_bill_75 (by decide) (fun c9 => ?_) (fun c9 => ?_)
                · exact absurd c9 (nI_pos (by omega))
                · refine lv_aload_n hx hb d_K_bill_78 rfl (lv_at hl 0 rfl) ?_
                  refine va_get (D := D) (ci := 4) (v := .ref (an 1)) (C := R_K) (T := F_K) (N := 22) hx hb htb iw_K hown hK hP 0 rfl rfl 7 (by decide) (htb _ mw_603) (fun _ h9 => h9) rfl d_K_bill_79 ?_
                  refine lv_iload_n hx hb d_K_bill_82 rfl (lv_at hl 3 rfl) ?_
                  refine q_iald hx hb hK hP 1 0 rfl rfl k (by omega) (by decide) d_K_bill_83 ?_
                  refine lv_iload_n hx hb d_K_bill_84 rfl (lv_at hl 1 rfl) ?_
                  refine lv_icmp_ne (tgt := 106) hx hb d_K_bill_85 (by decide) (fun c10 => ?_) (fun c10 => ?_)
                  · refine lv_iconst (v := (-1)) hx hb d_K_bill_106 (by decide) ?_
                    exact hret _ _ _ _ _ (by simp [bilK, c1, c2, c3, c4, c5, c6, c8, ek, mk, c9, c10]) (by rw [show bilK h nb x y (nI k) = false by simp [bilK, c1, c2, c3, c4, c5, c6, c8, ek, mk, c9, c10]]; exact hP) hS d_K_bill_107
                  · refine lv_aload_n hx hb d_K_bill_88 rfl (lv_at hl 0 rfl) ?_
                    refine lv_iload_n hx hb d_K_bill_89 rfl (lv_at hl 3 rfl) ?_
                    refine rdV (As := [.int (nI k)]) (rest := []) (b := an 0) ⟨hx, hb, hml, hown, htb⟩ (c_K_depthOf l D an kn h o (upd u 0 0) nb (show (upd u 0 0) 1 = nI nb from hnb) hb6 hab k (by omega)) (cwV (C := R_K) 1 htb (gV tb_good mw_684 mw_686 mw_7 mw_31 mw_687) rfl rfl rfl (by decide +kernel) ⟨Nat.le_of_ble_eq_true rfl, Nat.le_of_ble_eq_true rfl⟩) hP hK (va_recv hK hP (ci := 4) (q0 := 0) rfl rfl) rfl hl.1 rfl (lv_room (Nat.le_of_ble_eq_true rfl)) d_K_bill_90 ⟨Nat.zero_le _, Nat.zero_le _⟩ ?_
                    have hdl := depF_le (h 3) 60 k
                    refine lv_iconst (v := 4) hx hb d_K_bill_93 (by decide) ?_
                    refine q_icmp_eq (a := (depF (h 3) 60 k)) (b := 4) (tgt := 106) hx hb (by omega) (by omega) d_K_bill_94 (by decide) (fun c11 => ?_) (fun c11 => ?_)
                    · refine lv_iconst (v := (-1)) hx hb d_K_bill_106 (by decide) ?_
                      exact hret _ _ _ _ _ (by simp [bilK, c1, c2, c3, c4, c5, c6, c8, ek, mk, c9, c10, c11]) (by rw [show bilK h nb x y (nI k) = false by simp [bilK, c1, c2, c3, c4, c5, c6, c8, ek, mk, c9, c10, c11]]; exact hP) hS d_K_bill_107
                    · refine lv_aload_n hx hb d_K_bill_97 rfl (lv_at hl 0 rfl) ?_
                      refine va_get (D := D) (ci := 4) (v := .ref (an 5)) (C := R_K) (T := F_K) (N := 22) hx hb htb iw_K hown hK hP 0 rfl rfl 11 (by decide) (htb _ mw_607) (fun _ h9 => h9) rfl d_K_bill_98 ?_
                      refine lv_iload_n hx hb d_K_bill_101 rfl (lv_at hl 3 rfl) ?_
                      refine q_iald hx hb hK hP 5 4 rfl rfl k (by omega) (by decide) d_K_bill_102 ?_
                      refine lv_if_le (tgt := 108) hx hb d_K_bill_103 (by decide) (fun c12 => ?_) (fun c12 => ?_)
                      · refine lv_aload_n hx hb d_K_bill_108 rfl (lv_at hl 0 rfl) ?_
                        refine lv_iload_n hx hb d_K_bill_109 rfl (lv_at hl 1 rfl) ?_
                        refine lv_iload_n hx hb d_K_bill_110 rfl (lv_at hl 2 rfl) ?_
                        refine lv_iload_n hx hb d_K_bill_111 rfl (lv_at hl 3 rfl) ?_
                        refine wrV (As := [.int x, .int y, .int (nI k)]) (rest := []) (b := an 0) ⟨hx, hb, hml, hown, htb⟩ (c_K_make l D an kn h o (upd u 0 0) nb (show (upd u 0 0) 1 = nI nb from hnb) hb6 (by omega) x y (nI k)) (cwV (C := R_K) 3 htb (gV tb_good mw_688 mw_690 mw_8 mw_31 mw_691) rfl rfl rfl (by decide +kernel) ⟨Nat.le_of_ble_eq_true rfl, Nat.le_of_ble_eq_true rfl⟩) hP hK hD hS hA (va_recv hK hP (ci := 4) (q0 := 0) rfl rfl) rfl hl.1 rfl (lv_room (Nat.le_of_ble_eq_true rfl)) d_K_bill_112 ⟨Nat.zero_le _, Nat.zero_le _⟩ (fun H locs hP hS => ?_)
                        have hP : va_P D classes (wK an kn (makR h nb x y (nI k)) o (upd (upd u 0 0) 1 (nI nb + 1))) H := hP
                        have hD : va_D A (wK an kn (makR h nb x y (nI k)) o (upd (upd u 0 0) 1 (nI nb + 1))) := wK_D hD
                        exact hret _ _ _ _ _ (by simp [bilK, c1, c2, c3, c4, c5, c6, c8, ek, mk, c9, c10, c11, c12]) (by rw [show bilK h nb x y (nI k) = true by simp [bilK, c1, c2, c3, c4, c5, c6, c8, ek, mk, c9, c10, c11, c12]]; exact hP) hS d_K_bill_115
                      · refine lv_iconst (v := (-1)) hx hb d_K_bill_106 (by decide) ?_
                        exact hret _ _ _ _ _ (by simp [bilK, c1, c2, c3, c4, c5, c6, c8, ek, mk, c9, c10, c11, c12]) (by rw [show bilK h nb x y (nI k) = false by simp [bilK, c1, c2, c3, c4, c5, c6, c8, ek, mk, c9, c10, c11, c12]]; exact hP) hS d_K_bill_107
              · replace c8 := bI_f c8
                refine lv_iconst (v := (-1)) hx hb d_K_bill_72 (by decide) ?_
                exact hret _ _ _ _ _ (by simp [bilK, c1, c2, c3, c4, c5, c6, c8]) (by rw [show bilK h nb x y a = false by simp [bilK, c1, c2, c3, c4, c5, c6, c8]]; exact hP) hS d_K_bill_73
        · exact absurd c4 (by decide)
      · first | (simp [] at c3; done) | (simp [] at c2; done) | (simp [] at c1; done) | (simp at c3; omega) | (exact absurd c3 (by omega)) | (simp at c2; omega) | (exact absurd c2 (by omega)) | (simp at c1; omega) | (exact absurd c1 (by omega))
    · replace c2 := bI_f c2
      first | (simp [hc, hn] at c2; done) | (simp [hc, hn] at c1; done) | (simp at c2; omega) | (exact absurd c2 (by omega)) | (simp at c1; omega) | (exact absurd c1 (by omega))
set_option maxHeartbeats 4000000 in
set_option maxRecDepth 100000 in
theorem c_K_line (l : Launch) (D : va_G) (an : Nat → Nat) (kn : Nat → ClassId) (h : Nat → Nat → Int32) (o : Nat → Bool) (u : Nat → Int32) (nb : Nat) (hnb : u 1 = nI nb) (hb6 : nb ≤ 60) (nl : Nat) (hnl : u 3 = nI nl) (hl2 : nl ≤ 200) (hlt : nl < 200) (k : Nat) (hk : k < nb) (y q : Int32) (hw : inS y 0 1000000 = true) (hp : inS q 0 10000 = true) : WRi l y_K_line (.code y_K_line b_K_line 4 (some .int) :: TB) ({ frames := 2, cells := 0, slots := 0, locals := 46 } : Room) [.ref (an 0), .int (nI k), .int y, .int q] D classes (wK an kn h o u) (wK an kn (adlR h nl (nI k) y q) o (upd (upd u 0 0) 3 (nI nl + 1))) (tK kn) (nI (lofR (adlR h nl (nI k) y q) (nl + 1) (nI k)) - 1) := by
  refine wr_of (by decide +kernel) (rfl) (Nat.le_of_ble_eq_true rfl) ?_
  intro p e s m args below meth c Q ls A hx hb hml htb hown hP hK hD hS hA hl hret
  have hl : lv_has ls 4 [(0, .ref (an 0)), (1, .int (nI k)), (2, .int y), (3, .int q)] := hl
  have hin : inN nb (nI k) = true := inN_nI hk (by omega)
  refine lv_aload_n hx hb d_K_line_0 rfl (lv_at hl 0 rfl) ?_
  refine lv_aload_n hx hb d_K_line_1 rfl (lv_at hl 0 rfl) ?_
  refine lv_iload_n hx hb d_K_line_2 rfl (lv_at hl 1 rfl) ?_
  refine rdV (As := [.int (nI k)]) (rest := [.ref (an 0)]) (b := an 0) ⟨hx, hb, hml, hown, htb⟩ (c_K_isBill l D an kn h o u nb hnb hb6 (nI k)) (cwV (C := R_K) 1 htb (gV tb_good mw_680 mw_682 mw_6 mw_31 mw_683) rfl rfl rfl (by decide +kernel) ⟨Nat.le_of_ble_eq_true rfl, Nat.le_of_ble_eq_true rfl⟩) hP hK (va_recv hK hP (ci := 4) (q0 := 0) rfl rfl) rfl hl.1 rfl (lv_room (Nat.le_of_ble_eq_true rfl)) d_K_line_3 ⟨Nat.zero_le _, Nat.zero_le _⟩ ?_
  refine lv_if_eq (tgt := 30) hx hb d_K_line_6 (by decide) (fun c1 => ?_) (fun c1 => ?_)
  · replace c1 := bI_f c1
    first | (simp [hin, hw, hp] at c1; done) | (simp at c1; omega) | (exact absurd c1 (by omega))
  · replace c1 := bI_t c1
    refine lv_iload_n hx hb d_K_line_9 rfl (lv_at hl 2 rfl) ?_
    refine lv_iconst (v := 0) hx hb d_K_line_10 (by decide) ?_
    refine lv_ldc (v := 1000000) hx hb hown (htb _ mw_696) d_K_line_11 ?_
    refine rdS (As := [.int y, .int 0, .int 1000000]) (rest := [.ref (an 0)]) ⟨hx, hb, hml, hown, htb⟩ (c_K_in l D (wK an kn h o u) (tK kn) y 0 1000000) (va_cwS 3 htb (gS tb_good mw_672 mw_673 mw_31 mw_674) rfl rfl rfl (by decide +kernel) ⟨Nat.le_of_ble_eq_true rfl, Nat.le_of_ble_eq_true rfl⟩) hP hK rfl hl.1 rfl (lv_room (Nat.le_of_ble_eq_true rfl)) d_K_line_13 ⟨Nat.zero_le _, Nat.zero_le _⟩ ?_
    refine lv_if_eq (tgt := 30) hx hb d_K_line_16 (by decide) (fun c2 => ?_) (fun c2 => ?_)
    · replace c2 := bI_f c2
      first | (simp [hin, hw, hp] at c2; done) | (simp [hin, hw, hp] at c1; done) | (simp at c2; omega) | (exact absurd c2 (by omega)) | (simp at c1; omega) | (exact absurd c1 (by omega))
    · replace c2 := bI_t c2
      refine lv_iload_n hx hb d_K_line_19 rfl (lv_at hl 3 rfl) ?_
      refine lv_iconst (v := 0) hx hb d_K_line_20 (by decide) ?_
      refine lv_sipush (v := 10000) hx hb d_K_line_21 (by decide) ?_
      refine rdS (As := [.int q, .int 0, .int 10000]) (rest := [.ref (an 0)]) ⟨hx, hb, hml, hown, htb⟩ (c_K_in l D (wK an kn h o u) (tK kn) q 0 10000) (va_cwS 3 htb (gS tb_good mw_672 mw_673 mw_31 mw_674) rfl rfl rfl (by decide +kernel) ⟨Nat.le_of_ble_eq_true rfl, Nat.le_of_ble_eq_true rfl⟩) hP hK rfl hl.1 rfl (lv_room (Nat.le_of_ble_eq_true rfl)) d_K_line_24 ⟨Nat.zero_le _, Nat.zero_le _⟩ ?_
      refine lv_if_ne (tgt := 34) hx hb d_K_line_27 (by decide) (fun c3 => ?_) (fun c3 => ?_)
      · replace c3 := bI_t c3
        refine lv_aload_n hx hb d_K_line_34 rfl (lv_at hl 0 rfl) ?_
        refine va_get (D := D) (ci := 4) (v := .int (nI nl)) (C := R_K) (T := F_K) (N := 22) hx hb htb iw_K hown hK hP 0 rfl rfl 3 (by decide) (htb _ mw_599) (fun _ h9 => h9) (congrArg (fun x => some (Value.int x)) hnl) d_K_line_35 ?_
        refine lv_sipush (v := 200) hx hb d_K_line_38 (by decide) ?_
        refine q_icmp_ne (a := nl) (b := 200) (tgt := 48) hx hb (by omega) (by omega) d_K_line_41 (by decide) (fun c4 => ?_) (fun c4 => ?_)
        · refine lv_iconst (v := 0) hx hb d_K_line_48 (by decide) ?_
          refine va_put (D := D) (ci := 4) (v := .int 0) (ty := .int) (C := R_K) (T := F_K) (N := 22) hx hb htb iw_K t_K t_K_ok n_K hown hK hP hD hS 0 rfl rfl 0 (by decide) (htb _ mw_596) (fun _ h9 => h9) rfl (by decide +kernel) rfl rfl (Nat.le_of_ble_eq_true rfl) d_K_line_49 (fun H locs hP hD hS => ?_)
          have hP : va_P D classes (wK an kn h o (upd u 0 0)) H := hP
          have hD : va_D A (wK an kn h o (upd u 0 0)) := hD
          refine lv_aload_n hx hb d_K_line_52 rfl (lv_at hl 0 rfl) ?_
          refine va_get (D := D) (ci := 4) (v := .int 0) (C := R_K) (T := F_K) (N := 22) hx hb htb iw_K hown hK hP 0 rfl rfl 0 (by decide) (htb _ mw_596) (fun _ h9 => h9) rfl d_K_line_53 ?_
          refine lv_if_le (tgt := 63) hx hb d_K_line_56 (by decide) (fun c5 => ?_) (fun c5 => ?_)
          · refine lv_aload_n hx hb d_K_line_63 rfl (lv_at hl 0 rfl) ?_
            refine lv_iload_n hx hb d_K_line_64 rfl (lv_at hl 1 rfl) ?_
            refine lv_iload_n hx hb d_K_line_65 rfl (lv_at hl 2 rfl) ?_
            refine lv_iload_n hx hb d_K_line_66 rfl (lv_at hl 3 rfl) ?_
            refine wrV (As := [.int (nI k), .int y, .int q]) (rest := []) (b := an 0) ⟨hx, hb, hml, hown, htb⟩ (c_K_add l D an kn h o (upd u 0 0) nl (show (upd u 0 0) 3 = nI nl from hnl) hl2 (by omega) (nI k) y q) (cwV (C := R_K) 3 htb (gV tb_good mw_697 mw_699 mw_9 mw_31 mw_700) rfl rfl rfl (by decide +kernel) ⟨Nat.le_of_ble_eq_true rfl, Nat.le_of_ble_eq_true rfl⟩) hP hK hD hS hA (va_recv hK hP (ci := 4) (q0 := 0) rfl rfl) rfl hl.1 rfl (lv_room (Nat.le_of_ble_eq_true rfl)) d_K_line_67 ⟨Nat.zero_le _, Nat.zero_le _⟩ (fun H locs hP hS => ?_)
            have hP : va_P D classes (wK an kn (adlR h nl (nI k) y q) o (upd (upd u 0 0) 3 (nI nl + 1))) H := hP
            have hD : va_D A (wK an kn (adlR h nl (nI k) y q) o (upd (upd u 0 0) 3 (nI nl + 1))) := wK_D hD
            exact hret _ _ _ _ _ rfl hP hS d_K_line_70
          · exact absurd c5 (by decide)
        · first | (simp [] at c4; done) | (simp [] at c3; done) | (simp [] at c2; done) | (simp [] at c1; done) | (simp at c4; omega) | (exact absurd c4 (by omega)) | (simp at c3; omega) | (exact absurd c3 (by omega)) | (simp at c2; omega) | (exact absurd c2 (by omega)) | (simp at c1; omega) | (exact absurd c1 (by omega))
      · replace c3 := bI_f c3
        first | (simp [hin, hw, hp] at c3; done) | (simp [hin, hw, hp] at c2; done) | (simp [hin, hw, hp] at c1; done) | (simp at c3; omega) | (exact absurd c3 (by omega)) | (simp at c2; omega) | (exact absurd c2 (by omega)) | (simp at c1; omega) | (exact absurd c1 (by omega))
set_option maxHeartbeats 4000000 in
set_option maxRecDepth 100000 in
theorem c_K_box (l : Launch) (D : va_G) (an : Nat → Nat) (kn : Nat → ClassId) (h : Nat → Nat → Int32) (o : Nat → Bool) (u : Nat → Int32) (nx : Nat) (hnx : u 2 = nI nx) (hx6 : nx ≤ 60) (hlt : nx < 60) (x y w : Int32) (hc : inS x 0 3 = true) (hn : inS y 0 99999999 = true) (hw : inS w 0 1000000 = true) : WRi l y_K_box (.code y_K_box b_K_box 5 (some .int) :: TB) ({ frames := 1, cells := 0, slots := 0, locals := 22 } : Room) [.ref (an 0), .int x, .int y, .int w] D classes (wK an kn h o u) (wK an kn (if takK h nx x y = true then h else addK h nx x y w) o (if takK h nx x y = true then upd u 0 0 else upd (upd u 0 0) 2 (nI nx + 1))) (tK kn) (if takK h nx x y = true then -1 else nI nx) := by
  refine wr_of (by decide +kernel) (rfl) (Nat.le_of_ble_eq_true rfl) ?_
  intro p e s m args below meth c Q ls A hx hb hml htb hown hP hK hD hS hA hl hret
  have hl : lv_has ls 5 [(0, .ref (an 0)), (1, .int x), (2, .int y), (3, .int w)] := hl
  refine lv_aload_n hx hb d_K_box_0 rfl (lv_at hl 0 rfl) ?_
  refine lv_iload_n hx hb d_K_box_1 rfl (lv_at hl 1 rfl) ?_
  refine lv_iconst (v := 0) hx hb d_K_box_2 (by decide) ?_
  refine lv_iconst (v := 3) hx hb d_K_box_3 (by decide) ?_
  refine rdS (As := [.int x, .int 0, .int 3]) (rest := [.ref (an 0)]) ⟨hx, hb, hml, hown, htb⟩ (c_K_in l D (wK an kn h o u) (tK kn) x 0 3) (va_cwS 3 htb (gS tb_good mw_672 mw_673 mw_31 mw_674) rfl rfl rfl (by decide +kernel) ⟨Nat.le_of_ble_eq_true rfl, Nat.le_of_ble_eq_true rfl⟩) hP hK rfl hl.1 rfl (lv_room (Nat.le_of_ble_eq_true rfl)) d_K_box_4 ⟨Nat.zero_le _, Nat.zero_le _⟩ ?_
  refine lv_if_eq (tgt := 30) hx hb d_K_box_7 (by decide) (fun c1 => ?_) (fun c1 => ?_)
  · replace c1 := bI_f c1
    first | (simp [hc, hn, hw] at c1; done) | (simp at c1; omega) | (exact absurd c1 (by omega))
  · replace c1 := bI_t c1
    refine lv_iload_n hx hb d_K_box_10 rfl (lv_at hl 2 rfl) ?_
    refine lv_iconst (v := 0) hx hb d_K_box_11 (by decide) ?_
    refine lv_ldc (v := 99999999) hx hb hown (htb _ mw_675) d_K_box_12 ?_
    refine rdS (As := [.int y, .int 0, .int 99999999]) (rest := [.ref (an 0)]) ⟨hx, hb, hml, hown, htb⟩ (c_K_in l D (wK an kn h o u) (tK kn) y 0 99999999) (va_cwS 3 htb (gS tb_good mw_672 mw_673 mw_31 mw_674) rfl rfl rfl (by decide +kernel) ⟨Nat.le_of_ble_eq_true rfl, Nat.le_of_ble_eq_true rfl⟩) hP hK rfl hl.1 rfl (lv_room (Nat.le_of_ble_eq_true rfl)) d_K_box_14 ⟨Nat.zero_le _, Nat.zero_le _⟩ ?_
    refine lv_if_eq (tgt := 30) hx hb d_K_box_17 (by decide) (fun c2 => ?_) (fun c2 => ?_)
    · replace c2 := bI_f c2
      first | (simp [hc, hn, hw] at c2; done) | (simp [hc, hn, hw] at c1; done) | (simp at c2; omega) | (exact absurd c2 (by omega)) | (simp at c1; omega) | (exact absurd c1 (by omega))
    · replace c2 := bI_t c2
      refine lv_iload_n hx hb d_K_box_20 rfl (lv_at hl 3 rfl) ?_
      refine lv_iconst (v := 0) hx hb d_K_box_21 (by decide) ?_
      refine lv_ldc (v := 1000000) hx hb hown (htb _ mw_696) d_K_box_22 ?_
      refine rdS (As := [.int w, .int 0, .int 1000000]) (rest := [.ref (an 0)]) ⟨hx, hb, hml, hown, htb⟩ (c_K_in l D (wK an kn h o u) (tK kn) w 0 1000000) (va_cwS 3 htb (gS tb_good mw_672 mw_673 mw_31 mw_674) rfl rfl rfl (by decide +kernel) ⟨Nat.le_of_ble_eq_true rfl, Nat.le_of_ble_eq_true rfl⟩) hP hK rfl hl.1 rfl (lv_room (Nat.le_of_ble_eq_true rfl)) d_K_box_24 ⟨Nat.zero_le _, Nat.zero_le _⟩ ?_
      refine lv_if_ne (tgt := 34) hx hb d_K_box_27 (by decide) (fun c3 => ?_) (fun c3 => ?_)
      · replace c3 := bI_t c3
        refine lv_aload_n hx hb d_K_box_34 rfl (lv_at hl 0 rfl) ?_
        refine va_get (D := D) (ci := 4) (v := .int (nI nx)) (C := R_K) (T := F_K) (N := 22) hx hb htb iw_K hown hK hP 0 rfl rfl 2 (by decide) (htb _ mw_598) (fun _ h9 => h9) (congrArg (fun x => some (Value.int x)) hnx) d_K_box_35 ?_
        refine lv_bipush (v := 60) hx hb d_K_box_38 (by decide) ?_
        refine q_icmp_ne (a := nx) (b := 60) (tgt := 47) hx hb (by omega) (by omega) d_K_box_40 (by decide) (fun c4 => ?_) (fun c4 => ?_)
        · refine lv_iconst (v := 0) hx hb d_K_box_47 (by decide) ?_
          refine va_put (D := D) (ci := 4) (v := .int 0) (ty := .int) (C := R_K) (T := F_K) (N := 22) hx hb htb iw_K t_K t_K_ok n_K hown hK hP hD hS 0 rfl rfl 0 (by decide) (htb _ mw_596) (fun _ h9 => h9) rfl (by decide +kernel) rfl rfl (Nat.le_of_ble_eq_true rfl) d_K_box_48 (fun H locs hP hD hS => ?_)
          have hP : va_P D classes (wK an kn h o (upd u 0 0)) H := hP
          have hD : va_D A (wK an kn h o (upd u 0 0)) := hD
          refine lv_aload_n hx hb d_K_box_51 rfl (lv_at hl 0 rfl) ?_
          refine va_get (D := D) (ci := 4) (v := .int 0) (C := R_K) (T := F_K) (N := 22) hx hb htb iw_K hown hK hP 0 rfl rfl 0 (by decide) (htb _ mw_596) (fun _ h9 => h9) rfl d_K_box_52 ?_
          refine lv_if_le (tgt := 60) hx hb d_K_box_55 (by decide) (fun c5 => ?_) (fun c5 => ?_)
          · refine lv_iconst (v := 0) hx hb d_K_box_60 (by decide) ?_
            refine lv_istore (lv' := [(4, .int 0), (0, .ref (an 0)), (1, .int x), (2, .int y), (3, .int w)]) hx hb d_K_box_61 hl (by decide) rfl (fun ls hl => ?_)
            have lp63 : ∀ (n : Nat) (i : Nat), i ≤ nx → nx + 1 ≤ i + n → anyN (fun k => decide (h 9 k = x) && decide (h 10 k = y)) i = false → ∀ (ls : Array Slot), lv_has ls 5 [(0, .ref (an 0)), (1, .int x), (2, .int y), (3, .int w), (4, .int (nI i))] → W p l e ({ frames := 1, cells := 0, slots := 0, locals := 22 } : Room) s m args below meth c H locs 0 0 Q (F0 m 63 ls []) := by
              intro n
              induction n with
              | zero => intro i hi hm hf ls hl; exact absurd hm (by omega)
              | succ n ih =>
                intro i hi hm hf ls hl
                refine lv_iload hx hb d_K_box_63 (lv_at hl 4 rfl) ?_
                refine lv_aload_n hx hb d_K_box_65 rfl (lv_at hl 0 rfl) ?_
                refine va_get (D := D) (ci := 4) (v := .int (nI nx)) (C := R_K) (T := F_K) (N := 22) hx hb htb iw_K hown hK hP 0 rfl rfl 2 (by decide) (htb _ mw_598) (fun _ h9 => h9) (congrArg (fun x => some (Value.int x)) hnx) d_K_box_66 ?_
                refine q_icmp_ge (a := i) (b := nx) (tgt := 102) hx hb (by omega) (by omega) d_K_box_69 (by decide) (fun c6 => ?_) (fun c6 => ?_)
                · have htk : takK h nx x y = false := by show anyN _ nx = false; rw [show nx = i by omega]; exact hf
                  refine lv_aload_n hx hb d_K_box_102 rfl (lv_at hl 0 rfl) ?_
                  refine va_get (D := D) (ci := 4) (v := .ref (an 9)) (C := R_K) (T := F_K) (N := 22) hx hb htb iw_K hown hK hP 0 rfl rfl 15 (by decide) (htb _ mw_611) (fun _ h9 => h9) rfl d_K_box_103 ?_
                  refine lv_aload_n hx hb d_K_box_106 rfl (lv_at hl 0 rfl) ?_
                  refine va_get (D := D) (ci := 4) (v := .int (nI nx)) (C := R_K) (T := F_K) (N := 22) hx hb htb iw_K hown hK hP 0 rfl rfl 2 (by decide) (htb _ mw_598) (fun _ h9 => h9) (congrArg (fun x => some (Value.int x)) hnx) d_K_box_107 ?_
                  refine lv_iload_n hx hb d_K_box_110 rfl (lv_at hl 1 rfl) ?_
                  refine q_iast hx hb hK hP hD hS 9 8 rfl rfl nx (x := x) (by omega) (by decide) d_K_box_111 (fun H locs hP hD hS => ?_)
                  have hP : va_P D classes (wK an kn (up h 9 nx x) o (upd u 0 0)) H := hP
                  have hD : va_D A (wK an kn (up h 9 nx x) o (upd u 0 0)) := hD
                  refine lv_aload_n hx hb d_K_box_112 rfl (lv_at hl 0 rfl) ?_
                  refine va_get (D := D) (ci := 4) (v := .ref (an 10)) (C := R_K) (T := F_K) (N := 22) hx hb htb iw_K hown hK hP 0 rfl rfl 16 (by decide) (htb _ mw_612) (fun _ h9 => h9) rfl d_K_box_113 ?_
                  refine lv_aload_n hx hb d_K_box_116 rfl (lv_at hl 0 rfl) ?_
                  refine va_get (D := D) (ci := 4) (v := .int (nI nx)) (C := R_K) (T := F_K) (N := 22) hx hb htb iw_K hown hK hP 0 rfl rfl 2 (by decide) (htb _ mw_598) (fun _ h9 => h9) (congrArg (fun x => some (Value.int x)) hnx) d_K_box_117 ?_
                  refine lv_iload_n hx hb d_K_box_120 rfl (lv_at hl 2 rfl) ?_
                  refine q_iast hx hb hK hP hD hS 10 9 rfl rfl nx (x := y) (by omega) (by decide) d_K_box_121 (fun H locs hP hD hS => ?_)
                  have hP : va_P D classes (wK an kn (up (up h 9 nx x) 10 nx y) o (upd u 0 0)) H := hP
                  have hD : va_D A (wK an kn (up (up h 9 nx x) 10 nx y) o (upd u 0 0)) := hD
                  refine lv_aload_n hx hb d_K_box_122 rfl (lv_at hl 0 rfl) ?_
                  refine va_get (D := D) (ci := 4) (v := .ref (an 11)) (C := R_K) (T := F_K) (N := 22) hx hb htb iw_K hown hK hP 0 rfl rfl 17 (by decide) (htb _ mw_613) (fun _ h9 => h9) rfl d_K_box_123 ?_
                  refine lv_aload_n hx hb d_K_box_126 rfl (lv_at hl 0 rfl) ?_
                  refine va_get (D := D) (ci := 4) (v := .int (nI nx)) (C := R_K) (T := F_K) (N := 22) hx hb htb iw_K hown hK hP 0 rfl rfl 2 (by decide) (htb _ mw_598) (fun _ h9 => h9) (congrArg (fun x => some (Value.int x)) hnx) d_K_box_127 ?_
                  refine lv_iload_n hx hb d_K_box_130 rfl (lv_at hl 3 rfl) ?_
                  refine q_iast hx hb hK hP hD hS 11 10 rfl rfl nx (x := w) (by omega) (by decide) d_K_box_131 (fun H locs hP hD hS => ?_)
                  have hP : va_P D classes (wK an kn (up (up (up h 9 nx x) 10 nx y) 11 nx w) o (upd u 0 0)) H := hP
                  have hD : va_D A (wK an kn (up (up (up h 9 nx x) 10 nx y) 11 nx w) o (upd u 0 0)) := hD
                  refine lv_aload_n hx hb d_K_box_132 rfl (lv_at hl 0 rfl) ?_
                  refine va_get (D := D) (ci := 4) (v := .ref (an 12)) (C := R_K) (T := F_K) (N := 22) hx hb htb iw_K hown hK hP 0 rfl rfl 18 (by decide) (htb _ mw_614) (fun _ h9 => h9) rfl d_K_box_133 ?_
                  refine lv_aload_n hx hb d_K_box_136 rfl (lv_at hl 0 rfl) ?_
                  refine va_get (D := D) (ci := 4) (v := .int (nI nx)) (C := R_K) (T := F_K) (N := 22) hx hb htb iw_K hown hK hP 0 rfl rfl 2 (by decide) (htb _ mw_598) (fun _ h9 => h9) (congrArg (fun x => some (Value.int x)) hnx) d_K_box_137 ?_
                  refine lv_iconst (v := (-1)) hx hb d_K_box_140 (by decide) ?_
                  refine q_iast hx hb hK hP hD hS 12 11 rfl rfl nx (x := (-1)) (by omega) (by decide) d_K_box_141 (fun H locs hP hD hS => ?_)
                  have hP : va_P D classes (wK an kn (up (up (up (up h 9 nx x) 10 nx y) 11 nx w) 12 nx (-1)) o (upd u 0 0)) H := hP
                  have hD : va_D A (wK an kn (up (up (up (up h 9 nx x) 10 nx y) 11 nx w) 12 nx (-1)) o (upd u 0 0)) := hD
                  refine lv_aload_n hx hb d_K_box_142 rfl (lv_at hl 0 rfl) ?_
                  refine va_get (D := D) (ci := 4) (v := .ref (an 13)) (C := R_K) (T := F_K) (N := 22) hx hb htb iw_K hown hK hP 0 rfl rfl 19 (by decide) (htb _ mw_615) (fun _ h9 => h9) rfl d_K_box_143 ?_
                  refine lv_aload_n hx hb d_K_box_146 rfl (lv_at hl 0 rfl) ?_
                  refine va_get (D := D) (ci := 4) (v := .int (nI nx)) (C := R_K) (T := F_K) (N := 22) hx hb htb iw_K hown hK hP 0 rfl rfl 2 (by decide) (htb _ mw_598) (fun _ h9 => h9) (congrArg (fun x => some (Value.int x)) hnx) d_K_box_147 ?_
                  refine lv_iconst (v := (-1)) hx hb d_K_box_150 (by decide) ?_
                  refine q_iast hx hb hK hP hD hS 13 12 rfl rfl nx (x := (-1)) (by omega) (by decide) d_K_box_151 (fun H locs hP hD hS => ?_)
                  have hP : va_P D classes (wK an kn (up (up (up (up (up h 9 nx x) 10 nx y) 11 nx w) 12 nx (-1)) 13 nx (-1)) o (upd u 0 0)) H := hP
                  have hD : va_D A (wK an kn (up (up (up (up (up h 9 nx x) 10 nx y) 11 nx w) 12 nx (-1)) 13 nx (-1)) o (upd u 0 0)) := hD
                  refine lv_aload_n hx hb d_K_box_152 rfl (lv_at hl 0 rfl) ?_
                  refine va_get (D := D) (ci := 4) (v := .ref (an 14)) (C := R_K) (T := F_K) (N := 22) hx hb htb iw_K hown hK hP 0 rfl rfl 20 (by decide) (htb _ mw_616) (fun _ h9 => h9) rfl d_K_box_153 ?_
                  refine lv_aload_n hx hb d_K_box_156 rfl (lv_at hl 0 rfl) ?_
                  refine va_get (D := D) (ci := 4) (v := .int (nI nx)) (C := R_K) (T := F_K) (N := 22) hx hb htb iw_K hown hK hP 0 rfl rfl 2 (by decide) (htb _ mw_598) (fun _ h9 => h9) (congrArg (fun x => some (Value.int x)) hnx) d_K_box_157 ?_
                  refine lv_iconst (v := (-1)) hx hb d_K_box_160 (by decide) ?_
                  refine q_iast hx hb hK hP hD hS 14 13 rfl rfl nx (x := (-1)) (by omega) (by decide) d_K_box_161 (fun H locs hP hD hS => ?_)
                  have hP : va_P D classes (wK an kn (up (up (up (up (up (up h 9 nx x) 10 nx y) 11 nx w) 12 nx (-1)) 13 nx (-1)) 14 nx (-1)) o (upd u 0 0)) H := hP
                  have hD : va_D A (wK an kn (up (up (up (up (up (up h 9 nx x) 10 nx y) 11 nx w) 12 nx (-1)) 13 nx (-1)) 14 nx (-1)) o (upd u 0 0)) := hD
                  refine lv_aload_n hx hb d_K_box_162 rfl (lv_at hl 0 rfl) ?_
                  refine lv_dup hx hb d_K_box_163 rfl ?_
                  refine va_get (D := D) (ci := 4) (v := .int (nI nx)) (C := R_K) (T := F_K) (N := 22) hx hb htb iw_K hown hK hP 0 rfl rfl 2 (by decide) (htb _ mw_598) (fun _ h9 => h9) (congrArg (fun x => some (Value.int x)) hnx) d_K_box_164 ?_
                  refine lv_iconst (v := 1) hx hb d_K_box_167 (by decide) ?_
                  refine lv_iadd hx hb d_K_box_168 ?_
                  refine va_put (D := D) (ci := 4) (v := .int ((nI nx) + 1)) (ty := .int) (C := R_K) (T := F_K) (N := 22) hx hb htb iw_K t_K t_K_ok n_K hown hK hP hD hS 0 rfl rfl 2 (by decide) (htb _ mw_598) (fun _ h9 => h9) rfl (by decide +kernel) rfl rfl (Nat.le_of_ble_eq_true rfl) d_K_box_169 (fun H locs hP hD hS => ?_)
                  have hP : va_P D classes (wK an kn (up (up (up (up (up (up h 9 nx x) 10 nx y) 11 nx w) 12 nx (-1)) 13 nx (-1)) 14 nx (-1)) o (upd (upd u 0 0) 2 ((nI nx) + 1))) H := hP
                  have hD : va_D A (wK an kn (up (up (up (up (up (up h 9 nx x) 10 nx y) 11 nx w) 12 nx (-1)) 13 nx (-1)) 14 nx (-1)) o (upd (upd u 0 0) 2 ((nI nx) + 1))) := hD
                  refine lv_aload_n hx hb d_K_box_172 rfl (lv_at hl 0 rfl) ?_
                  refine va_get (D := D) (ci := 4) (v := .int ((nI nx) + 1)) (C := R_K) (T := F_K) (N := 22) hx hb htb iw_K hown hK hP 0 rfl rfl 2 (by decide) (htb _ mw_598) (fun _ h9 => h9) rfl d_K_box_173 ?_
                  refine lv_iconst (v := 1) hx hb d_K_box_176 (by decide) ?_
                  refine lv_isub hx hb d_K_box_177 ?_
                  exact hret _ _ _ _ _ (by simp [htk, Int32.add_sub_cancel]) (by simp only [htk, if_true, Bool.false_eq_true, if_false]; exact hP) hS d_K_box_178
                · refine lv_aload_n hx hb d_K_box_72 rfl (lv_at hl 0 rfl) ?_
                  refine va_get (D := D) (ci := 4) (v := .ref (an 9)) (C := R_K) (T := F_K) (N := 22) hx hb htb iw_K hown hK hP 0 rfl rfl 15 (by decide) (htb _ mw_611) (fun _ h9 => h9) rfl d_K_box_73 ?_
                  refine lv_iload hx hb d_K_box_76 (lv_at hl 4 rfl) ?_
                  refine q_iald hx hb hK hP 9 8 rfl rfl i (by omega) (by decide) d_K_box_78 ?_
                  refine lv_iload_n hx hb d_K_box_79 rfl (lv_at hl 1 rfl) ?_
                  refine lv_icmp_ne (tgt := 96) hx hb d_K_box_80 (by decide) (fun c7 => ?_) (fun c7 => ?_)
                  · refine lv_iinc (v := (nI (i + 1))) (lv' := [(4, .int (nI (i + 1))), (0, .ref (an 0)), (1, .int x), (2, .int y), (3, .int w)]) hx hb d_K_box_96 hl (k := 4) rfl (q_inc _) (by decide) rfl (fun ls hl => ?_)
                    refine lv_goto (tgt := 63) hx hb d_K_box_99 (by decide) ?_
                    exact ih (i + 1) (by omega) (by omega) (by simp [anyN, hf, c1, c2, c3, c4, c5, c6, c7]) _ (lv_sub hl [1, 2, 3, 4, 0] rfl)
                  · refine lv_aload_n hx hb d_K_box_83 rfl (lv_at hl 0 rfl) ?_
                    refine va_get (D := D) (ci := 4) (v := .ref (an 10)) (C := R_K) (T := F_K) (N := 22) hx hb htb iw_K hown hK hP 0 rfl rfl 16 (by decide) (htb _ mw_612) (fun _ h9 => h9) rfl d_K_box_84 ?_
                    refine lv_iload hx hb d_K_box_87 (lv_at hl 4 rfl) ?_
                    refine q_iald hx hb hK hP 10 9 rfl rfl i (by omega) (by decide) d_K_box_89 ?_
                    refine lv_iload_n hx hb d_K_box_90 rfl (lv_at hl 2 rfl) ?_
                    refine lv_icmp_ne (tgt := 96) hx hb d_K_box_91 (by decide) (fun c8 => ?_) (fun c8 => ?_)
                    · refine lv_iinc (v := (nI (i + 1))) (lv' := [(4, .int (nI (i + 1))), (0, .ref (an 0)), (1, .int x), (2, .int y), (3, .int w)]) hx hb d_K_box_96 hl (k := 4) rfl (q_inc _) (by decide) rfl (fun ls hl => ?_)
                      refine lv_goto (tgt := 63) hx hb d_K_box_99 (by decide) ?_
                      exact ih (i + 1) (by omega) (by omega) (by simp [anyN, hf, c1, c2, c3, c4, c5, c6, c7, c8]) _ (lv_sub hl [1, 2, 3, 4, 0] rfl)
                    · have htk : takK h nx x y = true := anyN_hit (i := i) (by simp [c1, c2, c3, c4, c5, c6, c7, c8]) (by omega)
                      refine lv_iconst (v := (-1)) hx hb d_K_box_94 (by decide) ?_
                      exact hret _ _ _ _ _ (by simp [htk]) (by simp only [htk, if_true, Bool.false_eq_true, if_false]; exact hP) hS d_K_box_95
            exact lp63 (nx + 1) 0 (Nat.zero_le _) (by omega) rfl _ (lv_sub hl [1, 2, 3, 4, 0] rfl)
          · exact absurd c5 (by decide)
        · first | (simp [] at c4; done) | (simp [] at c3; done) | (simp [] at c2; done) | (simp [] at c1; done) | (simp at c4; omega) | (exact absurd c4 (by omega)) | (simp at c3; omega) | (exact absurd c3 (by omega)) | (simp at c2; omega) | (exact absurd c2 (by omega)) | (simp at c1; omega) | (exact absurd c1 (by omega))
      · replace c3 := bI_f c3
        first | (simp [hc, hn, hw] at c3; done) | (simp [hc, hn, hw] at c2; done) | (simp [hc, hn, hw] at c1; done) | (simp at c3; omega) | (exact absurd c3 (by omega)) | (simp at c2; omega) | (exact absurd c2 (by omega)) | (simp at c1; omega) | (exact absurd c1 (by omega))
set_option maxHeartbeats 4000000 in
set_option maxRecDepth 100000 in
theorem c_K_like (l : Launch) (D : va_G) (an : Nat → Nat) (kn : Nat → ClassId) (h : Nat → Nat → Int32) (o : Nat → Bool) (u : Nat → Int32) (nb : Nat) (hnb : u 1 = nI nb) (hb6 : nb ≤ 60) (hnum : ∀ i, i < nb → ∃ n, n < 100000000 ∧ h 2 i = nI n) (x : Int32) (n0 : Nat) (y : Int32) (hc : inS x 0 3 = true) (hn0 : n0 < 100000000) : WRi l y_K_like (.code y_K_like b_K_like 7 (some .int) :: TB) ({ frames := 1, cells := 0, slots := 0, locals := 26 } : Room) [.ref (an 0), .int x, .int (nI n0), .int y] D classes (wK an kn h o u) (wK an kn h o (upd u 0 0)) (tK kn) (pickN (likK h x n0) y nb) := by
  refine wr_of (by decide +kernel) (rfl) (Nat.le_of_ble_eq_true rfl) ?_
  intro p e s m args below meth c Q ls A hx hb hml htb hown hP hK hD hS hA hl hret
  have hl : lv_has ls 7 [(0, .ref (an 0)), (1, .int x), (2, .int (nI n0)), (3, .int y)] := hl
  have hn : inS (nI n0) 0 99999999 = true := inS_nI (b := 99999999) (by omega)
  refine lv_aload_n hx hb d_K_like_0 rfl (lv_at hl 0 rfl) ?_
  refine lv_iload_n hx hb d_K_like_1 rfl (lv_at hl 1 rfl) ?_
  refine lv_iconst (v := 0) hx hb d_K_like_2 (by decide) ?_
  refine lv_iconst (v := 3) hx hb d_K_like_3 (by decide) ?_
  refine rdS (As := [.int x, .int 0, .int 3]) (rest := [.ref (an 0)]) ⟨hx, hb, hml, hown, htb⟩ (c_K_in l D (wK an kn h o u) (tK kn) x 0 3) (va_cwS 3 htb (gS tb_good mw_672 mw_673 mw_31 mw_674) rfl rfl rfl (by decide +kernel) ⟨Nat.le_of_ble_eq_true rfl, Nat.le_of_ble_eq_true rfl⟩) hP hK rfl hl.1 rfl (lv_room (Nat.le_of_ble_eq_true rfl)) d_K_like_4 ⟨Nat.zero_le _, Nat.zero_le _⟩ ?_
  refine lv_if_eq (tgt := 24) hx hb d_K_like_7 (by decide) (fun c1 => ?_) (fun c1 => ?_)
  · replace c1 := bI_f c1
    first | (simp [hc, hn] at c1; done) | (simp at c1; omega) | (exact absurd c1 (by omega))
  · replace c1 := bI_t c1
    refine lv_iload_n hx hb d_K_like_10 rfl (lv_at hl 2 rfl) ?_
    refine lv_iconst (v := 0) hx hb d_K_like_11 (by decide) ?_
    refine lv_ldc (v := 99999999) hx hb hown (htb _ mw_675) d_K_like_12 ?_
    refine rdS (As := [.int (nI n0), .int 0, .int 99999999]) (rest := [.ref (an 0)]) ⟨hx, hb, hml, hown, htb⟩ (c_K_in l D (wK an kn h o u) (tK kn) (nI n0) 0 99999999) (va_cwS 3 htb (gS tb_good mw_672 mw_673 mw_31 mw_674) rfl rfl rfl (by decide +kernel) ⟨Nat.le_of_ble_eq_true rfl, Nat.le_of_ble_eq_true rfl⟩) hP hK rfl hl.1 rfl (lv_room (Nat.le_of_ble_eq_true rfl)) d_K_like_14 ⟨Nat.zero_le _, Nat.zero_le _⟩ ?_
    refine lv_if_eq (tgt := 24) hx hb d_K_like_17 (by decide) (fun c2 => ?_) (fun c2 => ?_)
    · replace c2 := bI_f c2
      first | (simp [hc, hn] at c2; done) | (simp [hc, hn] at c1; done) | (simp at c2; omega) | (exact absurd c2 (by omega)) | (simp at c1; omega) | (exact absurd c1 (by omega))
    · replace c2 := bI_t c2
      refine lv_iconst (v := 0) hx hb d_K_like_20 (by decide) ?_
      refine lv_goto (tgt := 25) hx hb d_K_like_21 (by decide) ?_
      refine va_put (D := D) (ci := 4) (v := .int 0) (ty := .int) (C := R_K) (T := F_K) (N := 22) hx hb htb iw_K t_K t_K_ok n_K hown hK hP hD hS 0 rfl rfl 0 (by decide) (htb _ mw_596) (fun _ h9 => h9) rfl (by decide +kernel) rfl rfl (Nat.le_of_ble_eq_true rfl) d_K_like_25 (fun H locs hP hD hS => ?_)
      have hP : va_P D classes (wK an kn h o (upd u 0 0)) H := hP
      have hD : va_D A (wK an kn h o (upd u 0 0)) := hD
      refine lv_aload_n hx hb d_K_like_28 rfl (lv_at hl 0 rfl) ?_
      refine va_get (D := D) (ci := 4) (v := .int 0) (C := R_K) (T := F_K) (N := 22) hx hb htb iw_K hown hK hP 0 rfl rfl 0 (by decide) (htb _ mw_596) (fun _ h9 => h9) rfl d_K_like_29 ?_
      refine lv_if_le (tgt := 37) hx hb d_K_like_32 (by decide) (fun c3 => ?_) (fun c3 => ?_)
      · refine lv_iload_n hx hb d_K_like_37 rfl (lv_at hl 3 rfl) ?_
        refine lv_istore (lv' := [(4, .int y), (0, .ref (an 0)), (1, .int x), (2, .int (nI n0)), (3, .int y)]) hx hb d_K_like_38 hl (by decide) rfl (fun ls hl => ?_)
        refine lv_iconst (v := 0) hx hb d_K_like_40 (by decide) ?_
        refine lv_istore (lv' := [(5, .int 0), (4, .int y), (0, .ref (an 0)), (1, .int x), (2, .int (nI n0)), (3, .int y)]) hx hb d_K_like_41 hl (by decide) rfl (fun ls hl => ?_)
        have lp43 : ∀ (n : Nat) (i : Nat) (lf : Int32), i ≤ nb → nb + 1 ≤ i + n → lf = y - nI (cntN (likK h x n0) i) → pickN (likK h x n0) y i = -1 → ∀ (ls : Array Slot), lv_has ls 7 [(0, .ref (an 0)), (1, .int x), (2, .int (nI n0)), (4, .int lf), (5, .int (nI i))] → W p l e ({ frames := 1, cells := 0, slots := 0, locals := 26 } : Room) s m args below meth c H locs 0 0 Q (F0 m 43 ls []) := by
          intro n
          induction n with
          | zero => intro i lf hi hm hlf hp ls hl; exact absurd hm (by omega)
          | succ n ih =>
            intro i lf hi hm hlf hp ls hl
            refine lv_iload hx hb d_K_like_43 (lv_at hl 4 rfl) ?_
            refine lv_aload_n hx hb d_K_like_45 rfl (lv_at hl 0 rfl) ?_
            refine va_get (D := D) (ci := 4) (v := .int (nI nb)) (C := R_K) (T := F_K) (N := 22) hx hb htb iw_K hown hK hP 0 rfl rfl 1 (by decide) (htb _ mw_597) (fun _ h9 => h9) (congrArg (fun x => some (Value.int x)) hnb) d_K_like_46 ?_
            refine q_icmp_ge (a := i) (b := nb) (tgt := 118) hx hb (by omega) (by omega) d_K_like_49 (by decide) (fun c4 => ?_) (fun c4 => ?_)
            · refine lv_iconst (v := (-1)) hx hb d_K_like_118 (by decide) ?_
              exact hret _ _ _ _ _ (by rw [show nb = i by omega, hp]) hP hS d_K_like_119
            · refine lv_aload_n hx hb d_K_like_52 rfl (lv_at hl 0 rfl) ?_
              refine va_get (D := D) (ci := 4) (v := .ref (an 1)) (C := R_K) (T := F_K) (N := 22) hx hb htb iw_K hown hK hP 0 rfl rfl 7 (by decide) (htb _ mw_603) (fun _ h9 => h9) rfl d_K_like_53 ?_
              refine lv_iload hx hb d_K_like_56 (lv_at hl 4 rfl) ?_
              refine q_iald hx hb hK hP 1 0 rfl rfl i (by omega) (by decide) d_K_like_58 ?_
              refine lv_iload_n hx hb d_K_like_59 rfl (lv_at hl 1 rfl) ?_
              refine lv_icmp_ne (tgt := 81) hx hb d_K_like_60 (by decide) (fun c5 => ?_) (fun c5 => ?_)
              · have hlk : likK h x n0 i = false := by simp [likK, c5]
                refine lv_iconst (v := 0) hx hb d_K_like_81 (by decide) ?_
                refine lv_istore (lv' := [(6, .int 0), (0, .ref (an 0)), (1, .int x), (2, .int (nI n0)), (4, .int lf), (5, .int (nI i))]) hx hb d_K_like_82 hl (by decide) rfl (fun ls hl => ?_)
                refine lv_iload hx hb d_K_like_84 (lv_at hl 0 rfl) ?_
                refine lv_if_eq (tgt := 97) hx hb d_K_like_86 (by decide) (fun c6 => ?_) (fun c6 => ?_)
                · refine lv_iload hx hb d_K_like_97 (lv_at hl 4 rfl) ?_
                  refine lv_iload hx hb d_K_like_99 (lv_at hl 0 rfl) ?_
                  refine lv_if_eq (tgt := 108) hx hb d_K_like_101 (by decide) (fun c7 => ?_) (fun c7 => ?_)
                  · refine lv_iconst (v := 0) hx hb d_K_like_108 (by decide) ?_
                    refine lv_isub hx hb d_K_like_109 ?_
                    refine lv_istore (lv' := [(4, .int (lf - 0)), (6, .int 0), (0, .ref (an 0)), (1, .int x), (2, .int (nI n0)), (5, .int (nI i))]) hx hb d_K_like_110 hl (by decide) rfl (fun ls hl => ?_)
                    refine lv_iinc (v := (nI (i + 1))) (lv' := [(5, .int (nI (i + 1))), (4, .int (lf - 0)), (6, .int 0), (0, .ref (an 0)), (1, .int x), (2, .int (nI n0))]) hx hb d_K_like_112 hl (k := 5) rfl (q_inc _) (by decide) rfl (fun ls hl => ?_)
                    refine lv_goto (tgt := 43) hx hb d_K_like_115 (by decide) ?_
                    exact ih (i + 1) (lf - 0) (by omega) (by omega) (by rw [hlf, cntN_f (P := (likK h x n0)) hlk]; exact Int32.sub_zero _) (pickN_miss hp hlk) _ (lv_sub hl [3, 4, 5, 1, 0] rfl)
                  · exact absurd c7 (by decide)
                · exact absurd c6 (by decide)
              · obtain ⟨nn, hnn, enn⟩ := hnum i (by omega)
                have hix : ix (h 2 i) = nn := by rw [enn, ix_nI (by omega)]
                refine lv_aload_n hx hb d_K_like_63 rfl (lv_at hl 0 rfl) ?_
                refine va_get (D := D) (ci := 4) (v := .ref (an 2)) (C := R_K) (T := F_K) (N := 22) hx hb htb iw_K hown hK hP 0 rfl rfl 8 (by decide) (htb _ mw_604) (fun _ h9 => h9) rfl d_K_like_64 ?_
                refine lv_iload hx hb d_K_like_67 (lv_at hl 4 rfl) ?_
                refine q_iald hx hb hK hP 2 1 rfl rfl i (by omega) (by decide) d_K_like_69 ?_
                refine W.eq (congrArg (fun z => F0 m 70 ls (.int z :: [])) (show (h 2 i) = (nI nn) from enn)) ?_
                refine lv_iload_n hx hb d_K_like_70 rfl (lv_at hl 2 rfl) ?_
                refine rdS (As := [.int (nI nn), .int (nI n0)]) (rest := []) ⟨hx, hb, hml, hown, htb⟩ (c_K_isLike l D (wK an kn h o (upd u 0 0)) (tK kn) nn n0 (by omega) (by omega)) (va_cwS 2 htb (gS tb_good mw_817 mw_818 mw_31 mw_819) rfl rfl rfl (by decide +kernel) ⟨Nat.le_of_ble_eq_true rfl, Nat.le_of_ble_eq_true rfl⟩) hP hK rfl hl.1 rfl (lv_room (Nat.le_of_ble_eq_true rfl)) d_K_like_71 ⟨Nat.zero_le _, Nat.zero_le _⟩ ?_
                refine lv_if_eq (tgt := 81) hx hb d_K_like_74 (by decide) (fun c8 => ?_) (fun c8 => ?_)
                · replace c8 := bI_f c8
                  have hlk : likK h x n0 i = false := by simp [likK, c5, hix, c8]
                  refine lv_iconst (v := 0) hx hb d_K_like_81 (by decide) ?_
                  refine lv_istore (lv' := [(6, .int 0), (0, .ref (an 0)), (1, .int x), (2, .int (nI n0)), (4, .int lf), (5, .int (nI i))]) hx hb d_K_like_82 hl (by decide) rfl (fun ls hl => ?_)
                  refine lv_iload hx hb d_K_like_84 (lv_at hl 0 rfl) ?_
                  refine lv_if_eq (tgt := 97) hx hb d_K_like_86 (by decide) (fun c9 => ?_) (fun c9 => ?_)
                  · refine lv_iload hx hb d_K_like_97 (lv_at hl 4 rfl) ?_
                    refine lv_iload hx hb d_K_like_99 (lv_at hl 0 rfl) ?_
                    refine lv_if_eq (tgt := 108) hx hb d_K_like_101 (by decide) (fun c10 => ?_) (fun c10 => ?_)
                    · refine lv_iconst (v := 0) hx hb d_K_like_108 (by decide) ?_
                      refine lv_isub hx hb d_K_like_109 ?_
                      refine lv_istore (lv' := [(4, .int (lf - 0)), (6, .int 0), (0, .ref (an 0)), (1, .int x), (2, .int (nI n0)), (5, .int (nI i))]) hx hb d_K_like_110 hl (by decide) rfl (fun ls hl => ?_)
                      refine lv_iinc (v := (nI (i + 1))) (lv' := [(5, .int (nI (i + 1))), (4, .int (lf - 0)), (6, .int 0), (0, .ref (an 0)), (1, .int x), (2, .int (nI n0))]) hx hb d_K_like_112 hl (k := 5) rfl (q_inc _) (by decide) rfl (fun ls hl => ?_)
                      refine lv_goto (tgt := 43) hx hb d_K_like_115 (by decide) ?_
                      exact ih (i + 1) (lf - 0) (by omega) (by omega) (by rw [hlf, cntN_f (P := (likK h x n0)) hlk]; exact Int32.sub_zero _) (pickN_miss hp hlk) _ (lv_sub hl [3, 4, 5, 1, 0] rfl)
                    · exact absurd c10 (by decide)
                  · exact absurd c9 (by decide)
                · replace c8 := bI_t c8
                  have hlk : likK h x n0 i = true := by simp [likK, c5, hix, c8]
                  refine lv_iconst (v := 1) hx hb d_K_like_77 (by decide) ?_
                  refine lv_goto (tgt := 82) hx hb d_K_like_78 (by decide) ?_
                  refine lv_istore (lv' := [(6, .int 1), (0, .ref (an 0)), (1, .int x), (2, .int (nI n0)), (4, .int lf), (5, .int (nI i))]) hx hb d_K_like_82 hl (by decide) rfl (fun ls hl => ?_)
                  refine lv_iload hx hb d_K_like_84 (lv_at hl 0 rfl) ?_
                  refine lv_if_eq (tgt := 97) hx hb d_K_like_86 (by decide) (fun c11 => ?_) (fun c11 => ?_)
                  · exact absurd c11 (by decide)
                  · refine lv_iload hx hb d_K_like_89 (lv_at hl 4 rfl) ?_
                    refine lv_if_ne (tgt := 97) hx hb d_K_like_91 (by decide) (fun c12 => ?_) (fun c12 => ?_)
                    · refine lv_iload hx hb d_K_like_97 (lv_at hl 4 rfl) ?_
                      refine lv_iload hx hb d_K_like_99 (lv_at hl 0 rfl) ?_
                      refine lv_if_eq (tgt := 108) hx hb d_K_like_101 (by decide) (fun c13 => ?_) (fun c13 => ?_)
                      · exact absurd c13 (by decide)
                      · refine lv_iconst (v := 1) hx hb d_K_like_104 (by decide) ?_
                        refine lv_goto (tgt := 109) hx hb d_K_like_105 (by decide) ?_
                        refine lv_isub hx hb d_K_like_109 ?_
                        refine lv_istore (lv' := [(4, .int (lf - 1)), (6, .int 1), (0, .ref (an 0)), (1, .int x), (2, .int (nI n0)), (5, .int (nI i))]) hx hb d_K_like_110 hl (by decide) rfl (fun ls hl => ?_)
                        refine lv_iinc (v := (nI (i + 1))) (lv' := [(5, .int (nI (i + 1))), (4, .int (lf - 1)), (6, .int 1), (0, .ref (an 0)), (1, .int x), (2, .int (nI n0))]) hx hb d_K_like_112 hl (k := 5) rfl (q_inc _) (by decide) rfl (fun ls hl => ?_)
                        refine lv_goto (tgt := 43) hx hb d_K_like_115 (by decide) ?_
                        exact ih (i + 1) (lf - 1) (by omega) (by omega) (by rw [hlf, cntN_t (P := (likK h x n0)) hlk, sub_cnt]) (pickN_pass hp (sub0n (by rw [← hlf]; assumption))) _ (lv_sub hl [3, 4, 5, 1, 0] rfl)
                    · refine lv_iload hx hb d_K_like_94 (lv_at hl 5 rfl) ?_
                      exact hret _ _ _ _ _ (by rw [pickN_hit (i := i) (by omega) hp hlk (sub0 (by rw [← hlf]; assumption)) (by omega)]) hP hS d_K_like_96
        exact lp43 (nb + 1) 0 y (Nat.zero_le _) (by omega) (Int32.sub_zero _).symm rfl _ (lv_sub hl [2, 3, 4, 1, 0] rfl)
      · exact absurd c3 (by decide)
