def w0_B (h0 : Nat) (u : AK) : va_W := [(h0, .inr (1, [.int 0, .ref (u.1 2), .ref (u.1 3), .ref (u.1 4), .ref (u.1 5), .ref (u.1 6), .ref (u.1 7), .ref (u.1 8)])), (u.1 2, .inl (u.2 2, 60, .inl fun _ => 0)), (u.1 3, .inl (u.2 3, 60, .inl fun _ => 0)), (u.1 4, .inl (u.2 4, 60, .inl fun _ => 0)), (u.1 5, .inl (u.2 5, 60, .inl fun _ => 0)), (u.1 6, .inl (u.2 6, 60, .inl fun _ => 0)), (u.1 7, .inl (u.2 7, 60, .inl fun _ => 0)), (u.1 8, .inl (u.2 8, 60, .inl fun _ => 0))]
def t0_B (u : AK) : List (ClassId × FieldType) := [(u.2 2, .int), (u.2 3, .int), (u.2 4, .int), (u.2 5, .int), (u.2 6, .int), (u.2 7, .int), (u.2 8, .int)]
set_option maxHeartbeats 4000000 in
set_option maxRecDepth 100000 in
theorem c_B_init (l : Launch) (D : va_G) (h0 : Nat) : CT l y_B_init (.code y_B_init b_B_init 1 none :: TB) ({ frames := 1, cells := 7, slots := 420, locals := 12 } : Room) [.ref h0] D classes [(h0, .inr (1, [.int 0, .null, .null, .null, .null, .null, .null, .null]))] (w0_B h0) t0_B 7 420 := by
  refine ct_of (by decide +kernel) rfl (Nat.le_of_ble_eq_true rfl) ?_
  intro p e s m args below meth c Q ls A hx hb hml htb hown hin hP hK hD hS hA hl hret
  have hl : lv_has ls 1 [(0, .ref h0)] := hl
  refine lv_aload_n hx hb d_B_init_0 rfl (lv_at hl 0 rfl) ?_
  refine W.objInit hx hb hown (htb _ mw_54) (htb _ mw_47) (htb _ mw_48) rfl (by rw [hml]; exact hl.1) rfl d_B_init_1 (Nat.le_of_ble_eq_true rfl) (Nat.le_of_ble_eq_true rfl) ?_
  refine W.eq (g2 := F0 m 4 ls []) rfl ?_
  refine lv_aload_n hx hb d_B_init_4 rfl (lv_at hl 0 rfl) ?_
  refine lv_iconst (v := 0) hx hb d_B_init_5 (by decide) ?_
  refine va_put (D := D) (ci := 1) (v := .int 0) (ty := .int) (C := R_B) (T := F_B) (N := 8) hx hb htb iw_B t_B t_B_ok n_B hown hK hP hD hS 0 rfl rfl 0 (by decide) (htb _ mw_55) (fun _ h9 => h9) rfl (by decide +kernel) rfl rfl (Nat.le_of_ble_eq_true rfl) d_B_init_6 (fun H locs hP hD hS => ?_)
  have hP : va_P D classes [(h0, .inr (1, [.int 0, .null, .null, .null, .null, .null, .null, .null]))] H := hP
  have hD : va_D A [(h0, .inr (1, [.int 0, .null, .null, .null, .null, .null, .null, .null]))] := hD
  refine lv_aload_n hx hb d_B_init_9 rfl (lv_at hl 0 rfl) ?_
  refine lv_bipush (v := 60) hx hb d_B_init_10 (by decide) ?_
  refine va_newa (atype := .int) (ty := .int) (a0 := (60, .inl fun _ => 0)) (N' := 60) hx hb (htb _ mw_88) rfl hK hP hD hS hA (fun _ => rfl) (by decide) (by decide) (by decide) (Nat.le_of_ble_eq_true rfl) (Nat.le_of_ble_eq_true rfl) d_B_init_12 (fun q12 k12 H hK hP hD hS => ?_)
  have hP : va_P D classes [(h0, .inr (1, [.int 0, .null, .null, .null, .null, .null, .null, .null])), (q12, .inl (k12, 60, .inl fun _ => 0))] H := hP
  have hD : va_D A [(h0, .inr (1, [.int 0, .null, .null, .null, .null, .null, .null, .null])), (q12, .inl (k12, 60, .inl fun _ => 0))] := hD
  have hK : va_K D classes [(k12, .int)] s := hK
  refine va_putF (D := D) (ci := 1) (v := .ref q12) (ty := .array .int) (C := R_B) (T := F_B) (N := 8) hx hb htb iw_B t_B t_B_ok n_B hown hK hP hD hS 0 rfl rfl 1 (by decide) (htb _ mw_57) (fun _ h9 => h9) rfl hin rfl (by decide +kernel) rfl rfl (Nat.le_of_ble_eq_true rfl) d_B_init_14 (fun H locs hP hD hS => ?_)
  have hP : va_P D classes [(h0, .inr (1, [.int 0, .ref q12, .null, .null, .null, .null, .null, .null])), (q12, .inl (k12, 60, .inl fun _ => 0))] H := hP
  have hD : va_D A [(h0, .inr (1, [.int 0, .ref q12, .null, .null, .null, .null, .null, .null])), (q12, .inl (k12, 60, .inl fun _ => 0))] := hD
  refine lv_aload_n hx hb d_B_init_17 rfl (lv_at hl 0 rfl) ?_
  refine lv_bipush (v := 60) hx hb d_B_init_18 (by decide) ?_
  refine va_newa (atype := .int) (ty := .int) (a0 := (60, .inl fun _ => 0)) (N' := 60) hx hb (htb _ mw_88) rfl hK hP hD hS hA (fun _ => rfl) (by decide) (by decide) (by decide) (Nat.le_of_ble_eq_true rfl) (Nat.le_of_ble_eq_true rfl) d_B_init_20 (fun q20 k20 H hK hP hD hS => ?_)
  have hP : va_P D classes [(h0, .inr (1, [.int 0, .ref q12, .null, .null, .null, .null, .null, .null])), (q12, .inl (k12, 60, .inl fun _ => 0)), (q20, .inl (k20, 60, .inl fun _ => 0))] H := hP
  have hD : va_D A [(h0, .inr (1, [.int 0, .ref q12, .null, .null, .null, .null, .null, .null])), (q12, .inl (k12, 60, .inl fun _ => 0)), (q20, .inl (k20, 60, .inl fun _ => 0))] := hD
  have hK : va_K D classes [(k12, .int), (k20, .int)] s := hK
  refine va_putF (D := D) (ci := 1) (v := .ref q20) (ty := .array .int) (C := R_B) (T := F_B) (N := 8) hx hb htb iw_B t_B t_B_ok n_B hown hK hP hD hS 0 rfl rfl 2 (by decide) (htb _ mw_59) (fun _ h9 => h9) rfl hin rfl (by decide +kernel) rfl rfl (Nat.le_of_ble_eq_true rfl) d_B_init_22 (fun H locs hP hD hS => ?_)
  have hP : va_P D classes [(h0, .inr (1, [.int 0, .ref q12, .ref q20, .null, .null, .null, .null, .null])), (q12, .inl (k12, 60, .inl fun _ => 0)), (q20, .inl (k20, 60, .inl fun _ => 0))] H := hP
  have hD : va_D A [(h0, .inr (1, [.int 0, .ref q12, .ref q20, .null, .null, .null, .null, .null])), (q12, .inl (k12, 60, .inl fun _ => 0)), (q20, .inl (k20, 60, .inl fun _ => 0))] := hD
  refine lv_aload_n hx hb d_B_init_25 rfl (lv_at hl 0 rfl) ?_
  refine lv_bipush (v := 60) hx hb d_B_init_26 (by decide) ?_
  refine va_newa (atype := .int) (ty := .int) (a0 := (60, .inl fun _ => 0)) (N' := 60) hx hb (htb _ mw_88) rfl hK hP hD hS hA (fun _ => rfl) (by decide) (by decide) (by decide) (Nat.le_of_ble_eq_true rfl) (Nat.le_of_ble_eq_true rfl) d_B_init_28 (fun q28 k28 H hK hP hD hS => ?_)
  have hP : va_P D classes [(h0, .inr (1, [.int 0, .ref q12, .ref q20, .null, .null, .null, .null, .null])), (q12, .inl (k12, 60, .inl fun _ => 0)), (q20, .inl (k20, 60, .inl fun _ => 0)), (q28, .inl (k28, 60, .inl fun _ => 0))] H := hP
  have hD : va_D A [(h0, .inr (1, [.int 0, .ref q12, .ref q20, .null, .null, .null, .null, .null])), (q12, .inl (k12, 60, .inl fun _ => 0)), (q20, .inl (k20, 60, .inl fun _ => 0)), (q28, .inl (k28, 60, .inl fun _ => 0))] := hD
  have hK : va_K D classes [(k12, .int), (k20, .int), (k28, .int)] s := hK
  refine va_putF (D := D) (ci := 1) (v := .ref q28) (ty := .array .int) (C := R_B) (T := F_B) (N := 8) hx hb htb iw_B t_B t_B_ok n_B hown hK hP hD hS 0 rfl rfl 3 (by decide) (htb _ mw_61) (fun _ h9 => h9) rfl hin rfl (by decide +kernel) rfl rfl (Nat.le_of_ble_eq_true rfl) d_B_init_30 (fun H locs hP hD hS => ?_)
  have hP : va_P D classes [(h0, .inr (1, [.int 0, .ref q12, .ref q20, .ref q28, .null, .null, .null, .null])), (q12, .inl (k12, 60, .inl fun _ => 0)), (q20, .inl (k20, 60, .inl fun _ => 0)), (q28, .inl (k28, 60, .inl fun _ => 0))] H := hP
  have hD : va_D A [(h0, .inr (1, [.int 0, .ref q12, .ref q20, .ref q28, .null, .null, .null, .null])), (q12, .inl (k12, 60, .inl fun _ => 0)), (q20, .inl (k20, 60, .inl fun _ => 0)), (q28, .inl (k28, 60, .inl fun _ => 0))] := hD
  refine lv_aload_n hx hb d_B_init_33 rfl (lv_at hl 0 rfl) ?_
  refine lv_bipush (v := 60) hx hb d_B_init_34 (by decide) ?_
  refine va_newa (atype := .int) (ty := .int) (a0 := (60, .inl fun _ => 0)) (N' := 60) hx hb (htb _ mw_88) rfl hK hP hD hS hA (fun _ => rfl) (by decide) (by decide) (by decide) (Nat.le_of_ble_eq_true rfl) (Nat.le_of_ble_eq_true rfl) d_B_init_36 (fun q36 k36 H hK hP hD hS => ?_)
  have hP : va_P D classes [(h0, .inr (1, [.int 0, .ref q12, .ref q20, .ref q28, .null, .null, .null, .null])), (q12, .inl (k12, 60, .inl fun _ => 0)), (q20, .inl (k20, 60, .inl fun _ => 0)), (q28, .inl (k28, 60, .inl fun _ => 0)), (q36, .inl (k36, 60, .inl fun _ => 0))] H := hP
  have hD : va_D A [(h0, .inr (1, [.int 0, .ref q12, .ref q20, .ref q28, .null, .null, .null, .null])), (q12, .inl (k12, 60, .inl fun _ => 0)), (q20, .inl (k20, 60, .inl fun _ => 0)), (q28, .inl (k28, 60, .inl fun _ => 0)), (q36, .inl (k36, 60, .inl fun _ => 0))] := hD
  have hK : va_K D classes [(k12, .int), (k20, .int), (k28, .int), (k36, .int)] s := hK
  refine va_putF (D := D) (ci := 1) (v := .ref q36) (ty := .array .int) (C := R_B) (T := F_B) (N := 8) hx hb htb iw_B t_B t_B_ok n_B hown hK hP hD hS 0 rfl rfl 4 (by decide) (htb _ mw_63) (fun _ h9 => h9) rfl hin rfl (by decide +kernel) rfl rfl (Nat.le_of_ble_eq_true rfl) d_B_init_38 (fun H locs hP hD hS => ?_)
  have hP : va_P D classes [(h0, .inr (1, [.int 0, .ref q12, .ref q20, .ref q28, .ref q36, .null, .null, .null])), (q12, .inl (k12, 60, .inl fun _ => 0)), (q20, .inl (k20, 60, .inl fun _ => 0)), (q28, .inl (k28, 60, .inl fun _ => 0)), (q36, .inl (k36, 60, .inl fun _ => 0))] H := hP
  have hD : va_D A [(h0, .inr (1, [.int 0, .ref q12, .ref q20, .ref q28, .ref q36, .null, .null, .null])), (q12, .inl (k12, 60, .inl fun _ => 0)), (q20, .inl (k20, 60, .inl fun _ => 0)), (q28, .inl (k28, 60, .inl fun _ => 0)), (q36, .inl (k36, 60, .inl fun _ => 0))] := hD
  refine lv_aload_n hx hb d_B_init_41 rfl (lv_at hl 0 rfl) ?_
  refine lv_bipush (v := 60) hx hb d_B_init_42 (by decide) ?_
  refine va_newa (atype := .int) (ty := .int) (a0 := (60, .inl fun _ => 0)) (N' := 60) hx hb (htb _ mw_88) rfl hK hP hD hS hA (fun _ => rfl) (by decide) (by decide) (by decide) (Nat.le_of_ble_eq_true rfl) (Nat.le_of_ble_eq_true rfl) d_B_init_44 (fun q44 k44 H hK hP hD hS => ?_)
  have hP : va_P D classes [(h0, .inr (1, [.int 0, .ref q12, .ref q20, .ref q28, .ref q36, .null, .null, .null])), (q12, .inl (k12, 60, .inl fun _ => 0)), (q20, .inl (k20, 60, .inl fun _ => 0)), (q28, .inl (k28, 60, .inl fun _ => 0)), (q36, .inl (k36, 60, .inl fun _ => 0)), (q44, .inl (k44, 60, .inl fun _ => 0))] H := hP
  have hD : va_D A [(h0, .inr (1, [.int 0, .ref q12, .ref q20, .ref q28, .ref q36, .null, .null, .null])), (q12, .inl (k12, 60, .inl fun _ => 0)), (q20, .inl (k20, 60, .inl fun _ => 0)), (q28, .inl (k28, 60, .inl fun _ => 0)), (q36, .inl (k36, 60, .inl fun _ => 0)), (q44, .inl (k44, 60, .inl fun _ => 0))] := hD
  have hK : va_K D classes [(k12, .int), (k20, .int), (k28, .int), (k36, .int), (k44, .int)] s := hK
  refine va_putF (D := D) (ci := 1) (v := .ref q44) (ty := .array .int) (C := R_B) (T := F_B) (N := 8) hx hb htb iw_B t_B t_B_ok n_B hown hK hP hD hS 0 rfl rfl 5 (by decide) (htb _ mw_65) (fun _ h9 => h9) rfl hin rfl (by decide +kernel) rfl rfl (Nat.le_of_ble_eq_true rfl) d_B_init_46 (fun H locs hP hD hS => ?_)
  have hP : va_P D classes [(h0, .inr (1, [.int 0, .ref q12, .ref q20, .ref q28, .ref q36, .ref q44, .null, .null])), (q12, .inl (k12, 60, .inl fun _ => 0)), (q20, .inl (k20, 60, .inl fun _ => 0)), (q28, .inl (k28, 60, .inl fun _ => 0)), (q36, .inl (k36, 60, .inl fun _ => 0)), (q44, .inl (k44, 60, .inl fun _ => 0))] H := hP
  have hD : va_D A [(h0, .inr (1, [.int 0, .ref q12, .ref q20, .ref q28, .ref q36, .ref q44, .null, .null])), (q12, .inl (k12, 60, .inl fun _ => 0)), (q20, .inl (k20, 60, .inl fun _ => 0)), (q28, .inl (k28, 60, .inl fun _ => 0)), (q36, .inl (k36, 60, .inl fun _ => 0)), (q44, .inl (k44, 60, .inl fun _ => 0))] := hD
  refine lv_aload_n hx hb d_B_init_49 rfl (lv_at hl 0 rfl) ?_
  refine lv_bipush (v := 60) hx hb d_B_init_50 (by decide) ?_
  refine va_newa (atype := .int) (ty := .int) (a0 := (60, .inl fun _ => 0)) (N' := 60) hx hb (htb _ mw_88) rfl hK hP hD hS hA (fun _ => rfl) (by decide) (by decide) (by decide) (Nat.le_of_ble_eq_true rfl) (Nat.le_of_ble_eq_true rfl) d_B_init_52 (fun q52 k52 H hK hP hD hS => ?_)
  have hP : va_P D classes [(h0, .inr (1, [.int 0, .ref q12, .ref q20, .ref q28, .ref q36, .ref q44, .null, .null])), (q12, .inl (k12, 60, .inl fun _ => 0)), (q20, .inl (k20, 60, .inl fun _ => 0)), (q28, .inl (k28, 60, .inl fun _ => 0)), (q36, .inl (k36, 60, .inl fun _ => 0)), (q44, .inl (k44, 60, .inl fun _ => 0)), (q52, .inl (k52, 60, .inl fun _ => 0))] H := hP
  have hD : va_D A [(h0, .inr (1, [.int 0, .ref q12, .ref q20, .ref q28, .ref q36, .ref q44, .null, .null])), (q12, .inl (k12, 60, .inl fun _ => 0)), (q20, .inl (k20, 60, .inl fun _ => 0)), (q28, .inl (k28, 60, .inl fun _ => 0)), (q36, .inl (k36, 60, .inl fun _ => 0)), (q44, .inl (k44, 60, .inl fun _ => 0)), (q52, .inl (k52, 60, .inl fun _ => 0))] := hD
  have hK : va_K D classes [(k12, .int), (k20, .int), (k28, .int), (k36, .int), (k44, .int), (k52, .int)] s := hK
  refine va_putF (D := D) (ci := 1) (v := .ref q52) (ty := .array .int) (C := R_B) (T := F_B) (N := 8) hx hb htb iw_B t_B t_B_ok n_B hown hK hP hD hS 0 rfl rfl 6 (by decide) (htb _ mw_67) (fun _ h9 => h9) rfl hin rfl (by decide +kernel) rfl rfl (Nat.le_of_ble_eq_true rfl) d_B_init_54 (fun H locs hP hD hS => ?_)
  have hP : va_P D classes [(h0, .inr (1, [.int 0, .ref q12, .ref q20, .ref q28, .ref q36, .ref q44, .ref q52, .null])), (q12, .inl (k12, 60, .inl fun _ => 0)), (q20, .inl (k20, 60, .inl fun _ => 0)), (q28, .inl (k28, 60, .inl fun _ => 0)), (q36, .inl (k36, 60, .inl fun _ => 0)), (q44, .inl (k44, 60, .inl fun _ => 0)), (q52, .inl (k52, 60, .inl fun _ => 0))] H := hP
  have hD : va_D A [(h0, .inr (1, [.int 0, .ref q12, .ref q20, .ref q28, .ref q36, .ref q44, .ref q52, .null])), (q12, .inl (k12, 60, .inl fun _ => 0)), (q20, .inl (k20, 60, .inl fun _ => 0)), (q28, .inl (k28, 60, .inl fun _ => 0)), (q36, .inl (k36, 60, .inl fun _ => 0)), (q44, .inl (k44, 60, .inl fun _ => 0)), (q52, .inl (k52, 60, .inl fun _ => 0))] := hD
  refine lv_aload_n hx hb d_B_init_57 rfl (lv_at hl 0 rfl) ?_
  refine lv_bipush (v := 60) hx hb d_B_init_58 (by decide) ?_
  refine va_newa (atype := .int) (ty := .int) (a0 := (60, .inl fun _ => 0)) (N' := 60) hx hb (htb _ mw_88) rfl hK hP hD hS hA (fun _ => rfl) (by decide) (by decide) (by decide) (Nat.le_of_ble_eq_true rfl) (Nat.le_of_ble_eq_true rfl) d_B_init_60 (fun q60 k60 H hK hP hD hS => ?_)
  have hP : va_P D classes [(h0, .inr (1, [.int 0, .ref q12, .ref q20, .ref q28, .ref q36, .ref q44, .ref q52, .null])), (q12, .inl (k12, 60, .inl fun _ => 0)), (q20, .inl (k20, 60, .inl fun _ => 0)), (q28, .inl (k28, 60, .inl fun _ => 0)), (q36, .inl (k36, 60, .inl fun _ => 0)), (q44, .inl (k44, 60, .inl fun _ => 0)), (q52, .inl (k52, 60, .inl fun _ => 0)), (q60, .inl (k60, 60, .inl fun _ => 0))] H := hP
  have hD : va_D A [(h0, .inr (1, [.int 0, .ref q12, .ref q20, .ref q28, .ref q36, .ref q44, .ref q52, .null])), (q12, .inl (k12, 60, .inl fun _ => 0)), (q20, .inl (k20, 60, .inl fun _ => 0)), (q28, .inl (k28, 60, .inl fun _ => 0)), (q36, .inl (k36, 60, .inl fun _ => 0)), (q44, .inl (k44, 60, .inl fun _ => 0)), (q52, .inl (k52, 60, .inl fun _ => 0)), (q60, .inl (k60, 60, .inl fun _ => 0))] := hD
  have hK : va_K D classes [(k12, .int), (k20, .int), (k28, .int), (k36, .int), (k44, .int), (k52, .int), (k60, .int)] s := hK
  refine va_putF (D := D) (ci := 1) (v := .ref q60) (ty := .array .int) (C := R_B) (T := F_B) (N := 8) hx hb htb iw_B t_B t_B_ok n_B hown hK hP hD hS 0 rfl rfl 7 (by decide) (htb _ mw_69) (fun _ h9 => h9) rfl hin rfl (by decide +kernel) rfl rfl (Nat.le_of_ble_eq_true rfl) d_B_init_62 (fun H locs hP hD hS => ?_)
  have hP : va_P D classes [(h0, .inr (1, [.int 0, .ref q12, .ref q20, .ref q28, .ref q36, .ref q44, .ref q52, .ref q60])), (q12, .inl (k12, 60, .inl fun _ => 0)), (q20, .inl (k20, 60, .inl fun _ => 0)), (q28, .inl (k28, 60, .inl fun _ => 0)), (q36, .inl (k36, 60, .inl fun _ => 0)), (q44, .inl (k44, 60, .inl fun _ => 0)), (q52, .inl (k52, 60, .inl fun _ => 0)), (q60, .inl (k60, 60, .inl fun _ => 0))] H := hP
  have hD : va_D A [(h0, .inr (1, [.int 0, .ref q12, .ref q20, .ref q28, .ref q36, .ref q44, .ref q52, .ref q60])), (q12, .inl (k12, 60, .inl fun _ => 0)), (q20, .inl (k20, 60, .inl fun _ => 0)), (q28, .inl (k28, 60, .inl fun _ => 0)), (q36, .inl (k36, 60, .inl fun _ => 0)), (q44, .inl (k44, 60, .inl fun _ => 0)), (q52, .inl (k52, 60, .inl fun _ => 0)), (q60, .inl (k60, 60, .inl fun _ => 0))] := hD
  exact hret ((fun j => [q12, q20, q28, q36, q44, q52, q60].getD (j - 2) 0), (fun j => [k12, k20, k28, k36, k44, k52, k60].getD (j - 2) k12)) _ _ _ _ _ _ hP hK hD hS (Nat.le_of_ble_eq_true rfl) (Nat.le_of_ble_eq_true rfl) d_B_init_65
def w0_N (h0 : Nat) (u : AK) : va_W := [(h0, .inr (2, [.int 0, .ref (u.1 10), .ref (u.1 11), .ref (u.1 12), .ref (u.1 13), .ref (u.1 14)])), (u.1 10, .inl (u.2 10, 200, .inl fun _ => 0)), (u.1 11, .inl (u.2 11, 200, .inl fun _ => 0)), (u.1 12, .inl (u.2 12, 60, .inl fun _ => 0)), (u.1 13, .inl (u.2 13, 60, .inl fun _ => 0)), (u.1 14, .inl (u.2 14, 60, .inl fun _ => 0))]
def t0_N (u : AK) : List (ClassId × FieldType) := [(u.2 10, .int), (u.2 11, .int), (u.2 12, .int), (u.2 13, .int), (u.2 14, .int)]
set_option maxHeartbeats 4000000 in
set_option maxRecDepth 100000 in
theorem c_N_init (l : Launch) (D : va_G) (h0 : Nat) : CT l y_N_init (.code y_N_init b_N_init 1 none :: TB) ({ frames := 1, cells := 5, slots := 580, locals := 12 } : Room) [.ref h0] D classes [(h0, .inr (2, [.int 0, .null, .null, .null, .null, .null]))] (w0_N h0) t0_N 5 580 := by
  refine ct_of (by decide +kernel) rfl (Nat.le_of_ble_eq_true rfl) ?_
  intro p e s m args below meth c Q ls A hx hb hml htb hown hin hP hK hD hS hA hl hret
  have hl : lv_has ls 1 [(0, .ref h0)] := hl
  refine lv_aload_n hx hb d_N_init_0 rfl (lv_at hl 0 rfl) ?_
  refine W.objInit hx hb hown (htb _ mw_94) (htb _ mw_47) (htb _ mw_48) rfl (by rw [hml]; exact hl.1) rfl d_N_init_1 (Nat.le_of_ble_eq_true rfl) (Nat.le_of_ble_eq_true rfl) ?_
  refine W.eq (g2 := F0 m 4 ls []) rfl ?_
  refine lv_aload_n hx hb d_N_init_4 rfl (lv_at hl 0 rfl) ?_
  refine lv_iconst (v := 0) hx hb d_N_init_5 (by decide) ?_
  refine va_put (D := D) (ci := 2) (v := .int 0) (ty := .int) (C := R_N) (T := F_N) (N := 6) hx hb htb iw_N t_N t_N_ok n_N hown hK hP hD hS 0 rfl rfl 0 (by decide) (htb _ mw_95) (fun _ h9 => h9) rfl (by decide +kernel) rfl rfl (Nat.le_of_ble_eq_true rfl) d_N_init_6 (fun H locs hP hD hS => ?_)
  have hP : va_P D classes [(h0, .inr (2, [.int 0, .null, .null, .null, .null, .null]))] H := hP
  have hD : va_D A [(h0, .inr (2, [.int 0, .null, .null, .null, .null, .null]))] := hD
  refine lv_aload_n hx hb d_N_init_9 rfl (lv_at hl 0 rfl) ?_
  refine lv_sipush (v := 200) hx hb d_N_init_10 (by decide) ?_
  refine va_newa (atype := .int) (ty := .int) (a0 := (200, .inl fun _ => 0)) (N' := 200) hx hb (htb _ mw_88) rfl hK hP hD hS hA (fun _ => rfl) (by decide) (by decide) (by decide) (Nat.le_of_ble_eq_true rfl) (Nat.le_of_ble_eq_true rfl) d_N_init_13 (fun q13 k13 H hK hP hD hS => ?_)
  have hP : va_P D classes [(h0, .inr (2, [.int 0, .null, .null, .null, .null, .null])), (q13, .inl (k13, 200, .inl fun _ => 0))] H := hP
  have hD : va_D A [(h0, .inr (2, [.int 0, .null, .null, .null, .null, .null])), (q13, .inl (k13, 200, .inl fun _ => 0))] := hD
  have hK : va_K D classes [(k13, .int)] s := hK
  refine va_putF (D := D) (ci := 2) (v := .ref q13) (ty := .array .int) (C := R_N) (T := F_N) (N := 6) hx hb htb iw_N t_N t_N_ok n_N hown hK hP hD hS 0 rfl rfl 1 (by decide) (htb _ mw_97) (fun _ h9 => h9) rfl hin rfl (by decide +kernel) rfl rfl (Nat.le_of_ble_eq_true rfl) d_N_init_15 (fun H locs hP hD hS => ?_)
  have hP : va_P D classes [(h0, .inr (2, [.int 0, .ref q13, .null, .null, .null, .null])), (q13, .inl (k13, 200, .inl fun _ => 0))] H := hP
  have hD : va_D A [(h0, .inr (2, [.int 0, .ref q13, .null, .null, .null, .null])), (q13, .inl (k13, 200, .inl fun _ => 0))] := hD
  refine lv_aload_n hx hb d_N_init_18 rfl (lv_at hl 0 rfl) ?_
  refine lv_sipush (v := 200) hx hb d_N_init_19 (by decide) ?_
  refine va_newa (atype := .int) (ty := .int) (a0 := (200, .inl fun _ => 0)) (N' := 200) hx hb (htb _ mw_88) rfl hK hP hD hS hA (fun _ => rfl) (by decide) (by decide) (by decide) (Nat.le_of_ble_eq_true rfl) (Nat.le_of_ble_eq_true rfl) d_N_init_22 (fun q22 k22 H hK hP hD hS => ?_)
  have hP : va_P D classes [(h0, .inr (2, [.int 0, .ref q13, .null, .null, .null, .null])), (q13, .inl (k13, 200, .inl fun _ => 0)), (q22, .inl (k22, 200, .inl fun _ => 0))] H := hP
  have hD : va_D A [(h0, .inr (2, [.int 0, .ref q13, .null, .null, .null, .null])), (q13, .inl (k13, 200, .inl fun _ => 0)), (q22, .inl (k22, 200, .inl fun _ => 0))] := hD
  have hK : va_K D classes [(k13, .int), (k22, .int)] s := hK
  refine va_putF (D := D) (ci := 2) (v := .ref q22) (ty := .array .int) (C := R_N) (T := F_N) (N := 6) hx hb htb iw_N t_N t_N_ok n_N hown hK hP hD hS 0 rfl rfl 2 (by decide) (htb _ mw_98) (fun _ h9 => h9) rfl hin rfl (by decide +kernel) rfl rfl (Nat.le_of_ble_eq_true rfl) d_N_init_24 (fun H locs hP hD hS => ?_)
  have hP : va_P D classes [(h0, .inr (2, [.int 0, .ref q13, .ref q22, .null, .null, .null])), (q13, .inl (k13, 200, .inl fun _ => 0)), (q22, .inl (k22, 200, .inl fun _ => 0))] H := hP
  have hD : va_D A [(h0, .inr (2, [.int 0, .ref q13, .ref q22, .null, .null, .null])), (q13, .inl (k13, 200, .inl fun _ => 0)), (q22, .inl (k22, 200, .inl fun _ => 0))] := hD
  refine lv_aload_n hx hb d_N_init_27 rfl (lv_at hl 0 rfl) ?_
  refine lv_bipush (v := 60) hx hb d_N_init_28 (by decide) ?_
  refine va_newa (atype := .int) (ty := .int) (a0 := (60, .inl fun _ => 0)) (N' := 60) hx hb (htb _ mw_88) rfl hK hP hD hS hA (fun _ => rfl) (by decide) (by decide) (by decide) (Nat.le_of_ble_eq_true rfl) (Nat.le_of_ble_eq_true rfl) d_N_init_30 (fun q30 k30 H hK hP hD hS => ?_)
  have hP : va_P D classes [(h0, .inr (2, [.int 0, .ref q13, .ref q22, .null, .null, .null])), (q13, .inl (k13, 200, .inl fun _ => 0)), (q22, .inl (k22, 200, .inl fun _ => 0)), (q30, .inl (k30, 60, .inl fun _ => 0))] H := hP
  have hD : va_D A [(h0, .inr (2, [.int 0, .ref q13, .ref q22, .null, .null, .null])), (q13, .inl (k13, 200, .inl fun _ => 0)), (q22, .inl (k22, 200, .inl fun _ => 0)), (q30, .inl (k30, 60, .inl fun _ => 0))] := hD
  have hK : va_K D classes [(k13, .int), (k22, .int), (k30, .int)] s := hK
  refine va_putF (D := D) (ci := 2) (v := .ref q30) (ty := .array .int) (C := R_N) (T := F_N) (N := 6) hx hb htb iw_N t_N t_N_ok n_N hown hK hP hD hS 0 rfl rfl 3 (by decide) (htb _ mw_99) (fun _ h9 => h9) rfl hin rfl (by decide +kernel) rfl rfl (Nat.le_of_ble_eq_true rfl) d_N_init_32 (fun H locs hP hD hS => ?_)
  have hP : va_P D classes [(h0, .inr (2, [.int 0, .ref q13, .ref q22, .ref q30, .null, .null])), (q13, .inl (k13, 200, .inl fun _ => 0)), (q22, .inl (k22, 200, .inl fun _ => 0)), (q30, .inl (k30, 60, .inl fun _ => 0))] H := hP
  have hD : va_D A [(h0, .inr (2, [.int 0, .ref q13, .ref q22, .ref q30, .null, .null])), (q13, .inl (k13, 200, .inl fun _ => 0)), (q22, .inl (k22, 200, .inl fun _ => 0)), (q30, .inl (k30, 60, .inl fun _ => 0))] := hD
  refine lv_aload_n hx hb d_N_init_35 rfl (lv_at hl 0 rfl) ?_
  refine lv_bipush (v := 60) hx hb d_N_init_36 (by decide) ?_
  refine va_newa (atype := .int) (ty := .int) (a0 := (60, .inl fun _ => 0)) (N' := 60) hx hb (htb _ mw_88) rfl hK hP hD hS hA (fun _ => rfl) (by decide) (by decide) (by decide) (Nat.le_of_ble_eq_true rfl) (Nat.le_of_ble_eq_true rfl) d_N_init_38 (fun q38 k38 H hK hP hD hS => ?_)
  have hP : va_P D classes [(h0, .inr (2, [.int 0, .ref q13, .ref q22, .ref q30, .null, .null])), (q13, .inl (k13, 200, .inl fun _ => 0)), (q22, .inl (k22, 200, .inl fun _ => 0)), (q30, .inl (k30, 60, .inl fun _ => 0)), (q38, .inl (k38, 60, .inl fun _ => 0))] H := hP
  have hD : va_D A [(h0, .inr (2, [.int 0, .ref q13, .ref q22, .ref q30, .null, .null])), (q13, .inl (k13, 200, .inl fun _ => 0)), (q22, .inl (k22, 200, .inl fun _ => 0)), (q30, .inl (k30, 60, .inl fun _ => 0)), (q38, .inl (k38, 60, .inl fun _ => 0))] := hD
  have hK : va_K D classes [(k13, .int), (k22, .int), (k30, .int), (k38, .int)] s := hK
  refine va_putF (D := D) (ci := 2) (v := .ref q38) (ty := .array .int) (C := R_N) (T := F_N) (N := 6) hx hb htb iw_N t_N t_N_ok n_N hown hK hP hD hS 0 rfl rfl 4 (by decide) (htb _ mw_101) (fun _ h9 => h9) rfl hin rfl (by decide +kernel) rfl rfl (Nat.le_of_ble_eq_true rfl) d_N_init_40 (fun H locs hP hD hS => ?_)
  have hP : va_P D classes [(h0, .inr (2, [.int 0, .ref q13, .ref q22, .ref q30, .ref q38, .null])), (q13, .inl (k13, 200, .inl fun _ => 0)), (q22, .inl (k22, 200, .inl fun _ => 0)), (q30, .inl (k30, 60, .inl fun _ => 0)), (q38, .inl (k38, 60, .inl fun _ => 0))] H := hP
  have hD : va_D A [(h0, .inr (2, [.int 0, .ref q13, .ref q22, .ref q30, .ref q38, .null])), (q13, .inl (k13, 200, .inl fun _ => 0)), (q22, .inl (k22, 200, .inl fun _ => 0)), (q30, .inl (k30, 60, .inl fun _ => 0)), (q38, .inl (k38, 60, .inl fun _ => 0))] := hD
  refine lv_aload_n hx hb d_N_init_43 rfl (lv_at hl 0 rfl) ?_
  refine lv_bipush (v := 60) hx hb d_N_init_44 (by decide) ?_
  refine va_newa (atype := .int) (ty := .int) (a0 := (60, .inl fun _ => 0)) (N' := 60) hx hb (htb _ mw_88) rfl hK hP hD hS hA (fun _ => rfl) (by decide) (by decide) (by decide) (Nat.le_of_ble_eq_true rfl) (Nat.le_of_ble_eq_true rfl) d_N_init_46 (fun q46 k46 H hK hP hD hS => ?_)
  have hP : va_P D classes [(h0, .inr (2, [.int 0, .ref q13, .ref q22, .ref q30, .ref q38, .null])), (q13, .inl (k13, 200, .inl fun _ => 0)), (q22, .inl (k22, 200, .inl fun _ => 0)), (q30, .inl (k30, 60, .inl fun _ => 0)), (q38, .inl (k38, 60, .inl fun _ => 0)), (q46, .inl (k46, 60, .inl fun _ => 0))] H := hP
  have hD : va_D A [(h0, .inr (2, [.int 0, .ref q13, .ref q22, .ref q30, .ref q38, .null])), (q13, .inl (k13, 200, .inl fun _ => 0)), (q22, .inl (k22, 200, .inl fun _ => 0)), (q30, .inl (k30, 60, .inl fun _ => 0)), (q38, .inl (k38, 60, .inl fun _ => 0)), (q46, .inl (k46, 60, .inl fun _ => 0))] := hD
  have hK : va_K D classes [(k13, .int), (k22, .int), (k30, .int), (k38, .int), (k46, .int)] s := hK
  refine va_putF (D := D) (ci := 2) (v := .ref q46) (ty := .array .int) (C := R_N) (T := F_N) (N := 6) hx hb htb iw_N t_N t_N_ok n_N hown hK hP hD hS 0 rfl rfl 5 (by decide) (htb _ mw_103) (fun _ h9 => h9) rfl hin rfl (by decide +kernel) rfl rfl (Nat.le_of_ble_eq_true rfl) d_N_init_48 (fun H locs hP hD hS => ?_)
  have hP : va_P D classes [(h0, .inr (2, [.int 0, .ref q13, .ref q22, .ref q30, .ref q38, .ref q46])), (q13, .inl (k13, 200, .inl fun _ => 0)), (q22, .inl (k22, 200, .inl fun _ => 0)), (q30, .inl (k30, 60, .inl fun _ => 0)), (q38, .inl (k38, 60, .inl fun _ => 0)), (q46, .inl (k46, 60, .inl fun _ => 0))] H := hP
  have hD : va_D A [(h0, .inr (2, [.int 0, .ref q13, .ref q22, .ref q30, .ref q38, .ref q46])), (q13, .inl (k13, 200, .inl fun _ => 0)), (q22, .inl (k22, 200, .inl fun _ => 0)), (q30, .inl (k30, 60, .inl fun _ => 0)), (q38, .inl (k38, 60, .inl fun _ => 0)), (q46, .inl (k46, 60, .inl fun _ => 0))] := hD
  exact hret ((fun j => [q13, q22, q30, q38, q46].getD (j - 10) 0), (fun j => [k13, k22, k30, k38, k46].getD (j - 10) k13)) _ _ _ _ _ _ hP hK hD hS (Nat.le_of_ble_eq_true rfl) (Nat.le_of_ble_eq_true rfl) d_N_init_51
def w0_X (h0 : Nat) (u : AK) : va_W := [(h0, .inr (3, [.int 0, .ref (u.1 16), .ref (u.1 17), .ref (u.1 18), .ref (u.1 19), .ref (u.1 20), .ref (u.1 21), .ref (u.1 22), .ref (u.1 23)])), (u.1 16, .inl (u.2 16, 60, .inl fun _ => 0)), (u.1 17, .inl (u.2 17, 60, .inl fun _ => 0)), (u.1 18, .inl (u.2 18, 60, .inl fun _ => 0)), (u.1 19, .inl (u.2 19, 60, .inl fun _ => 0)), (u.1 20, .inl (u.2 20, 60, .inr (.inl fun _ => 0))), (u.1 21, .inl (u.2 21, 60, .inl fun _ => 0)), (u.1 22, .inl (u.2 22, 60, .inl fun _ => 0)), (u.1 23, .inl (u.2 23, 60, .inl fun _ => 0))]
def t0_X (u : AK) : List (ClassId × FieldType) := [(u.2 16, .int), (u.2 17, .int), (u.2 18, .int), (u.2 19, .int), (u.2 20, .long), (u.2 21, .int), (u.2 22, .int), (u.2 23, .int)]
set_option maxHeartbeats 4000000 in
set_option maxRecDepth 100000 in
theorem c_X_init (l : Launch) (D : va_G) (h0 : Nat) : CT l y_X_init (.code y_X_init b_X_init 1 none :: TB) ({ frames := 1, cells := 8, slots := 480, locals := 12 } : Room) [.ref h0] D classes [(h0, .inr (3, [.int 0, .null, .null, .null, .null, .null, .null, .null, .null]))] (w0_X h0) t0_X 8 480 := by
  refine ct_of (by decide +kernel) rfl (Nat.le_of_ble_eq_true rfl) ?_
  intro p e s m args below meth c Q ls A hx hb hml htb hown hin hP hK hD hS hA hl hret
  have hl : lv_has ls 1 [(0, .ref h0)] := hl
  refine lv_aload_n hx hb d_X_init_0 rfl (lv_at hl 0 rfl) ?_
  refine W.objInit hx hb hown (htb _ mw_123) (htb _ mw_47) (htb _ mw_48) rfl (by rw [hml]; exact hl.1) rfl d_X_init_1 (Nat.le_of_ble_eq_true rfl) (Nat.le_of_ble_eq_true rfl) ?_
  refine W.eq (g2 := F0 m 4 ls []) rfl ?_
  refine lv_aload_n hx hb d_X_init_4 rfl (lv_at hl 0 rfl) ?_
  refine lv_iconst (v := 0) hx hb d_X_init_5 (by decide) ?_
  refine va_put (D := D) (ci := 3) (v := .int 0) (ty := .int) (C := R_X) (T := F_X) (N := 9) hx hb htb iw_X t_X t_X_ok n_X hown hK hP hD hS 0 rfl rfl 0 (by decide) (htb _ mw_124) (fun _ h9 => h9) rfl (by decide +kernel) rfl rfl (Nat.le_of_ble_eq_true rfl) d_X_init_6 (fun H locs hP hD hS => ?_)
  have hP : va_P D classes [(h0, .inr (3, [.int 0, .null, .null, .null, .null, .null, .null, .null, .null]))] H := hP
  have hD : va_D A [(h0, .inr (3, [.int 0, .null, .null, .null, .null, .null, .null, .null, .null]))] := hD
  refine lv_aload_n hx hb d_X_init_9 rfl (lv_at hl 0 rfl) ?_
  refine lv_bipush (v := 60) hx hb d_X_init_10 (by decide) ?_
  refine va_newa (atype := .int) (ty := .int) (a0 := (60, .inl fun _ => 0)) (N' := 60) hx hb (htb _ mw_88) rfl hK hP hD hS hA (fun _ => rfl) (by decide) (by decide) (by decide) (Nat.le_of_ble_eq_true rfl) (Nat.le_of_ble_eq_true rfl) d_X_init_12 (fun q12 k12 H hK hP hD hS => ?_)
  have hP : va_P D classes [(h0, .inr (3, [.int 0, .null, .null, .null, .null, .null, .null, .null, .null])), (q12, .inl (k12, 60, .inl fun _ => 0))] H := hP
  have hD : va_D A [(h0, .inr (3, [.int 0, .null, .null, .null, .null, .null, .null, .null, .null])), (q12, .inl (k12, 60, .inl fun _ => 0))] := hD
  have hK : va_K D classes [(k12, .int)] s := hK
  refine va_putF (D := D) (ci := 3) (v := .ref q12) (ty := .array .int) (C := R_X) (T := F_X) (N := 9) hx hb htb iw_X t_X t_X_ok n_X hown hK hP hD hS 0 rfl rfl 1 (by decide) (htb _ mw_126) (fun _ h9 => h9) rfl hin rfl (by decide +kernel) rfl rfl (Nat.le_of_ble_eq_true rfl) d_X_init_14 (fun H locs hP hD hS => ?_)
  have hP : va_P D classes [(h0, .inr (3, [.int 0, .ref q12, .null, .null, .null, .null, .null, .null, .null])), (q12, .inl (k12, 60, .inl fun _ => 0))] H := hP
  have hD : va_D A [(h0, .inr (3, [.int 0, .ref q12, .null, .null, .null, .null, .null, .null, .null])), (q12, .inl (k12, 60, .inl fun _ => 0))] := hD
  refine lv_aload_n hx hb d_X_init_17 rfl (lv_at hl 0 rfl) ?_
  refine lv_bipush (v := 60) hx hb d_X_init_18 (by decide) ?_
  refine va_newa (atype := .int) (ty := .int) (a0 := (60, .inl fun _ => 0)) (N' := 60) hx hb (htb _ mw_88) rfl hK hP hD hS hA (fun _ => rfl) (by decide) (by decide) (by decide) (Nat.le_of_ble_eq_true rfl) (Nat.le_of_ble_eq_true rfl) d_X_init_20 (fun q20 k20 H hK hP hD hS => ?_)
  have hP : va_P D classes [(h0, .inr (3, [.int 0, .ref q12, .null, .null, .null, .null, .null, .null, .null])), (q12, .inl (k12, 60, .inl fun _ => 0)), (q20, .inl (k20, 60, .inl fun _ => 0))] H := hP
  have hD : va_D A [(h0, .inr (3, [.int 0, .ref q12, .null, .null, .null, .null, .null, .null, .null])), (q12, .inl (k12, 60, .inl fun _ => 0)), (q20, .inl (k20, 60, .inl fun _ => 0))] := hD
  have hK : va_K D classes [(k12, .int), (k20, .int)] s := hK
  refine va_putF (D := D) (ci := 3) (v := .ref q20) (ty := .array .int) (C := R_X) (T := F_X) (N := 9) hx hb htb iw_X t_X t_X_ok n_X hown hK hP hD hS 0 rfl rfl 2 (by decide) (htb _ mw_128) (fun _ h9 => h9) rfl hin rfl (by decide +kernel) rfl rfl (Nat.le_of_ble_eq_true rfl) d_X_init_22 (fun H locs hP hD hS => ?_)
  have hP : va_P D classes [(h0, .inr (3, [.int 0, .ref q12, .ref q20, .null, .null, .null, .null, .null, .null])), (q12, .inl (k12, 60, .inl fun _ => 0)), (q20, .inl (k20, 60, .inl fun _ => 0))] H := hP
  have hD : va_D A [(h0, .inr (3, [.int 0, .ref q12, .ref q20, .null, .null, .null, .null, .null, .null])), (q12, .inl (k12, 60, .inl fun _ => 0)), (q20, .inl (k20, 60, .inl fun _ => 0))] := hD
  refine lv_aload_n hx hb d_X_init_25 rfl (lv_at hl 0 rfl) ?_
  refine lv_bipush (v := 60) hx hb d_X_init_26 (by decide) ?_
  refine va_newa (atype := .int) (ty := .int) (a0 := (60, .inl fun _ => 0)) (N' := 60) hx hb (htb _ mw_88) rfl hK hP hD hS hA (fun _ => rfl) (by decide) (by decide) (by decide) (Nat.le_of_ble_eq_true rfl) (Nat.le_of_ble_eq_true rfl) d_X_init_28 (fun q28 k28 H hK hP hD hS => ?_)
  have hP : va_P D classes [(h0, .inr (3, [.int 0, .ref q12, .ref q20, .null, .null, .null, .null, .null, .null])), (q12, .inl (k12, 60, .inl fun _ => 0)), (q20, .inl (k20, 60, .inl fun _ => 0)), (q28, .inl (k28, 60, .inl fun _ => 0))] H := hP
  have hD : va_D A [(h0, .inr (3, [.int 0, .ref q12, .ref q20, .null, .null, .null, .null, .null, .null])), (q12, .inl (k12, 60, .inl fun _ => 0)), (q20, .inl (k20, 60, .inl fun _ => 0)), (q28, .inl (k28, 60, .inl fun _ => 0))] := hD
  have hK : va_K D classes [(k12, .int), (k20, .int), (k28, .int)] s := hK
  refine va_putF (D := D) (ci := 3) (v := .ref q28) (ty := .array .int) (C := R_X) (T := F_X) (N := 9) hx hb htb iw_X t_X t_X_ok n_X hown hK hP hD hS 0 rfl rfl 3 (by decide) (htb _ mw_130) (fun _ h9 => h9) rfl hin rfl (by decide +kernel) rfl rfl (Nat.le_of_ble_eq_true rfl) d_X_init_30 (fun H locs hP hD hS => ?_)
  have hP : va_P D classes [(h0, .inr (3, [.int 0, .ref q12, .ref q20, .ref q28, .null, .null, .null, .null, .null])), (q12, .inl (k12, 60, .inl fun _ => 0)), (q20, .inl (k20, 60, .inl fun _ => 0)), (q28, .inl (k28, 60, .inl fun _ => 0))] H := hP
  have hD : va_D A [(h0, .inr (3, [.int 0, .ref q12, .ref q20, .ref q28, .null, .null, .null, .null, .null])), (q12, .inl (k12, 60, .inl fun _ => 0)), (q20, .inl (k20, 60, .inl fun _ => 0)), (q28, .inl (k28, 60, .inl fun _ => 0))] := hD
  refine lv_aload_n hx hb d_X_init_33 rfl (lv_at hl 0 rfl) ?_
  refine lv_bipush (v := 60) hx hb d_X_init_34 (by decide) ?_
  refine va_newa (atype := .int) (ty := .int) (a0 := (60, .inl fun _ => 0)) (N' := 60) hx hb (htb _ mw_88) rfl hK hP hD hS hA (fun _ => rfl) (by decide) (by decide) (by decide) (Nat.le_of_ble_eq_true rfl) (Nat.le_of_ble_eq_true rfl) d_X_init_36 (fun q36 k36 H hK hP hD hS => ?_)
  have hP : va_P D classes [(h0, .inr (3, [.int 0, .ref q12, .ref q20, .ref q28, .null, .null, .null, .null, .null])), (q12, .inl (k12, 60, .inl fun _ => 0)), (q20, .inl (k20, 60, .inl fun _ => 0)), (q28, .inl (k28, 60, .inl fun _ => 0)), (q36, .inl (k36, 60, .inl fun _ => 0))] H := hP
  have hD : va_D A [(h0, .inr (3, [.int 0, .ref q12, .ref q20, .ref q28, .null, .null, .null, .null, .null])), (q12, .inl (k12, 60, .inl fun _ => 0)), (q20, .inl (k20, 60, .inl fun _ => 0)), (q28, .inl (k28, 60, .inl fun _ => 0)), (q36, .inl (k36, 60, .inl fun _ => 0))] := hD
  have hK : va_K D classes [(k12, .int), (k20, .int), (k28, .int), (k36, .int)] s := hK
  refine va_putF (D := D) (ci := 3) (v := .ref q36) (ty := .array .int) (C := R_X) (T := F_X) (N := 9) hx hb htb iw_X t_X t_X_ok n_X hown hK hP hD hS 0 rfl rfl 4 (by decide) (htb _ mw_132) (fun _ h9 => h9) rfl hin rfl (by decide +kernel) rfl rfl (Nat.le_of_ble_eq_true rfl) d_X_init_38 (fun H locs hP hD hS => ?_)
  have hP : va_P D classes [(h0, .inr (3, [.int 0, .ref q12, .ref q20, .ref q28, .ref q36, .null, .null, .null, .null])), (q12, .inl (k12, 60, .inl fun _ => 0)), (q20, .inl (k20, 60, .inl fun _ => 0)), (q28, .inl (k28, 60, .inl fun _ => 0)), (q36, .inl (k36, 60, .inl fun _ => 0))] H := hP
  have hD : va_D A [(h0, .inr (3, [.int 0, .ref q12, .ref q20, .ref q28, .ref q36, .null, .null, .null, .null])), (q12, .inl (k12, 60, .inl fun _ => 0)), (q20, .inl (k20, 60, .inl fun _ => 0)), (q28, .inl (k28, 60, .inl fun _ => 0)), (q36, .inl (k36, 60, .inl fun _ => 0))] := hD
  refine lv_aload_n hx hb d_X_init_41 rfl (lv_at hl 0 rfl) ?_
  refine lv_bipush (v := 60) hx hb d_X_init_42 (by decide) ?_
  refine va_newa (atype := .long) (ty := .long) (a0 := (60, .inr (.inl fun _ => 0))) (N' := 60) hx hb (htb _ mw_160) rfl hK hP hD hS hA (fun _ => rfl) (by decide) (by decide) (by decide) (Nat.le_of_ble_eq_true rfl) (Nat.le_of_ble_eq_true rfl) d_X_init_44 (fun q44 k44 H hK hP hD hS => ?_)
  have hP : va_P D classes [(h0, .inr (3, [.int 0, .ref q12, .ref q20, .ref q28, .ref q36, .null, .null, .null, .null])), (q12, .inl (k12, 60, .inl fun _ => 0)), (q20, .inl (k20, 60, .inl fun _ => 0)), (q28, .inl (k28, 60, .inl fun _ => 0)), (q36, .inl (k36, 60, .inl fun _ => 0)), (q44, .inl (k44, 60, .inr (.inl fun _ => 0)))] H := hP
  have hD : va_D A [(h0, .inr (3, [.int 0, .ref q12, .ref q20, .ref q28, .ref q36, .null, .null, .null, .null])), (q12, .inl (k12, 60, .inl fun _ => 0)), (q20, .inl (k20, 60, .inl fun _ => 0)), (q28, .inl (k28, 60, .inl fun _ => 0)), (q36, .inl (k36, 60, .inl fun _ => 0)), (q44, .inl (k44, 60, .inr (.inl fun _ => 0)))] := hD
  have hK : va_K D classes [(k12, .int), (k20, .int), (k28, .int), (k36, .int), (k44, .long)] s := hK
  refine va_putF (D := D) (ci := 3) (v := .ref q44) (ty := .array .long) (C := R_X) (T := F_X) (N := 9) hx hb htb iw_X t_X t_X_ok n_X hown hK hP hD hS 0 rfl rfl 5 (by decide) (htb _ mw_134) (fun _ h9 => h9) rfl hin rfl (by decide +kernel) rfl rfl (Nat.le_of_ble_eq_true rfl) d_X_init_46 (fun H locs hP hD hS => ?_)
  have hP : va_P D classes [(h0, .inr (3, [.int 0, .ref q12, .ref q20, .ref q28, .ref q36, .ref q44, .null, .null, .null])), (q12, .inl (k12, 60, .inl fun _ => 0)), (q20, .inl (k20, 60, .inl fun _ => 0)), (q28, .inl (k28, 60, .inl fun _ => 0)), (q36, .inl (k36, 60, .inl fun _ => 0)), (q44, .inl (k44, 60, .inr (.inl fun _ => 0)))] H := hP
  have hD : va_D A [(h0, .inr (3, [.int 0, .ref q12, .ref q20, .ref q28, .ref q36, .ref q44, .null, .null, .null])), (q12, .inl (k12, 60, .inl fun _ => 0)), (q20, .inl (k20, 60, .inl fun _ => 0)), (q28, .inl (k28, 60, .inl fun _ => 0)), (q36, .inl (k36, 60, .inl fun _ => 0)), (q44, .inl (k44, 60, .inr (.inl fun _ => 0)))] := hD
  refine lv_aload_n hx hb d_X_init_49 rfl (lv_at hl 0 rfl) ?_
  refine lv_bipush (v := 60) hx hb d_X_init_50 (by decide) ?_
  refine va_newa (atype := .int) (ty := .int) (a0 := (60, .inl fun _ => 0)) (N' := 60) hx hb (htb _ mw_88) rfl hK hP hD hS hA (fun _ => rfl) (by decide) (by decide) (by decide) (Nat.le_of_ble_eq_true rfl) (Nat.le_of_ble_eq_true rfl) d_X_init_52 (fun q52 k52 H hK hP hD hS => ?_)
  have hP : va_P D classes [(h0, .inr (3, [.int 0, .ref q12, .ref q20, .ref q28, .ref q36, .ref q44, .null, .null, .null])), (q12, .inl (k12, 60, .inl fun _ => 0)), (q20, .inl (k20, 60, .inl fun _ => 0)), (q28, .inl (k28, 60, .inl fun _ => 0)), (q36, .inl (k36, 60, .inl fun _ => 0)), (q44, .inl (k44, 60, .inr (.inl fun _ => 0))), (q52, .inl (k52, 60, .inl fun _ => 0))] H := hP
  have hD : va_D A [(h0, .inr (3, [.int 0, .ref q12, .ref q20, .ref q28, .ref q36, .ref q44, .null, .null, .null])), (q12, .inl (k12, 60, .inl fun _ => 0)), (q20, .inl (k20, 60, .inl fun _ => 0)), (q28, .inl (k28, 60, .inl fun _ => 0)), (q36, .inl (k36, 60, .inl fun _ => 0)), (q44, .inl (k44, 60, .inr (.inl fun _ => 0))), (q52, .inl (k52, 60, .inl fun _ => 0))] := hD
  have hK : va_K D classes [(k12, .int), (k20, .int), (k28, .int), (k36, .int), (k44, .long), (k52, .int)] s := hK
  refine va_putF (D := D) (ci := 3) (v := .ref q52) (ty := .array .int) (C := R_X) (T := F_X) (N := 9) hx hb htb iw_X t_X t_X_ok n_X hown hK hP hD hS 0 rfl rfl 6 (by decide) (htb _ mw_135) (fun _ h9 => h9) rfl hin rfl (by decide +kernel) rfl rfl (Nat.le_of_ble_eq_true rfl) d_X_init_54 (fun H locs hP hD hS => ?_)
  have hP : va_P D classes [(h0, .inr (3, [.int 0, .ref q12, .ref q20, .ref q28, .ref q36, .ref q44, .ref q52, .null, .null])), (q12, .inl (k12, 60, .inl fun _ => 0)), (q20, .inl (k20, 60, .inl fun _ => 0)), (q28, .inl (k28, 60, .inl fun _ => 0)), (q36, .inl (k36, 60, .inl fun _ => 0)), (q44, .inl (k44, 60, .inr (.inl fun _ => 0))), (q52, .inl (k52, 60, .inl fun _ => 0))] H := hP
  have hD : va_D A [(h0, .inr (3, [.int 0, .ref q12, .ref q20, .ref q28, .ref q36, .ref q44, .ref q52, .null, .null])), (q12, .inl (k12, 60, .inl fun _ => 0)), (q20, .inl (k20, 60, .inl fun _ => 0)), (q28, .inl (k28, 60, .inl fun _ => 0)), (q36, .inl (k36, 60, .inl fun _ => 0)), (q44, .inl (k44, 60, .inr (.inl fun _ => 0))), (q52, .inl (k52, 60, .inl fun _ => 0))] := hD
  refine lv_aload_n hx hb d_X_init_57 rfl (lv_at hl 0 rfl) ?_
  refine lv_bipush (v := 60) hx hb d_X_init_58 (by decide) ?_
  refine va_newa (atype := .int) (ty := .int) (a0 := (60, .inl fun _ => 0)) (N' := 60) hx hb (htb _ mw_88) rfl hK hP hD hS hA (fun _ => rfl) (by decide) (by decide) (by decide) (Nat.le_of_ble_eq_true rfl) (Nat.le_of_ble_eq_true rfl) d_X_init_60 (fun q60 k60 H hK hP hD hS => ?_)
  have hP : va_P D classes [(h0, .inr (3, [.int 0, .ref q12, .ref q20, .ref q28, .ref q36, .ref q44, .ref q52, .null, .null])), (q12, .inl (k12, 60, .inl fun _ => 0)), (q20, .inl (k20, 60, .inl fun _ => 0)), (q28, .inl (k28, 60, .inl fun _ => 0)), (q36, .inl (k36, 60, .inl fun _ => 0)), (q44, .inl (k44, 60, .inr (.inl fun _ => 0))), (q52, .inl (k52, 60, .inl fun _ => 0)), (q60, .inl (k60, 60, .inl fun _ => 0))] H := hP
  have hD : va_D A [(h0, .inr (3, [.int 0, .ref q12, .ref q20, .ref q28, .ref q36, .ref q44, .ref q52, .null, .null])), (q12, .inl (k12, 60, .inl fun _ => 0)), (q20, .inl (k20, 60, .inl fun _ => 0)), (q28, .inl (k28, 60, .inl fun _ => 0)), (q36, .inl (k36, 60, .inl fun _ => 0)), (q44, .inl (k44, 60, .inr (.inl fun _ => 0))), (q52, .inl (k52, 60, .inl fun _ => 0)), (q60, .inl (k60, 60, .inl fun _ => 0))] := hD
  have hK : va_K D classes [(k12, .int), (k20, .int), (k28, .int), (k36, .int), (k44, .long), (k52, .int), (k60, .int)] s := hK
  refine va_putF (D := D) (ci := 3) (v := .ref q60) (ty := .array .int) (C := R_X) (T := F_X) (N := 9) hx hb htb iw_X t_X t_X_ok n_X hown hK hP hD hS 0 rfl rfl 7 (by decide) (htb _ mw_137) (fun _ h9 => h9) rfl hin rfl (by decide +kernel) rfl rfl (Nat.le_of_ble_eq_true rfl) d_X_init_62 (fun H locs hP hD hS => ?_)
  have hP : va_P D classes [(h0, .inr (3, [.int 0, .ref q12, .ref q20, .ref q28, .ref q36, .ref q44, .ref q52, .ref q60, .null])), (q12, .inl (k12, 60, .inl fun _ => 0)), (q20, .inl (k20, 60, .inl fun _ => 0)), (q28, .inl (k28, 60, .inl fun _ => 0)), (q36, .inl (k36, 60, .inl fun _ => 0)), (q44, .inl (k44, 60, .inr (.inl fun _ => 0))), (q52, .inl (k52, 60, .inl fun _ => 0)), (q60, .inl (k60, 60, .inl fun _ => 0))] H := hP
  have hD : va_D A [(h0, .inr (3, [.int 0, .ref q12, .ref q20, .ref q28, .ref q36, .ref q44, .ref q52, .ref q60, .null])), (q12, .inl (k12, 60, .inl fun _ => 0)), (q20, .inl (k20, 60, .inl fun _ => 0)), (q28, .inl (k28, 60, .inl fun _ => 0)), (q36, .inl (k36, 60, .inl fun _ => 0)), (q44, .inl (k44, 60, .inr (.inl fun _ => 0))), (q52, .inl (k52, 60, .inl fun _ => 0)), (q60, .inl (k60, 60, .inl fun _ => 0))] := hD
  refine lv_aload_n hx hb d_X_init_65 rfl (lv_at hl 0 rfl) ?_
  refine lv_bipush (v := 60) hx hb d_X_init_66 (by decide) ?_
  refine va_newa (atype := .int) (ty := .int) (a0 := (60, .inl fun _ => 0)) (N' := 60) hx hb (htb _ mw_88) rfl hK hP hD hS hA (fun _ => rfl) (by decide) (by decide) (by decide) (Nat.le_of_ble_eq_true rfl) (Nat.le_of_ble_eq_true rfl) d_X_init_68 (fun q68 k68 H hK hP hD hS => ?_)
  have hP : va_P D classes [(h0, .inr (3, [.int 0, .ref q12, .ref q20, .ref q28, .ref q36, .ref q44, .ref q52, .ref q60, .null])), (q12, .inl (k12, 60, .inl fun _ => 0)), (q20, .inl (k20, 60, .inl fun _ => 0)), (q28, .inl (k28, 60, .inl fun _ => 0)), (q36, .inl (k36, 60, .inl fun _ => 0)), (q44, .inl (k44, 60, .inr (.inl fun _ => 0))), (q52, .inl (k52, 60, .inl fun _ => 0)), (q60, .inl (k60, 60, .inl fun _ => 0)), (q68, .inl (k68, 60, .inl fun _ => 0))] H := hP
  have hD : va_D A [(h0, .inr (3, [.int 0, .ref q12, .ref q20, .ref q28, .ref q36, .ref q44, .ref q52, .ref q60, .null])), (q12, .inl (k12, 60, .inl fun _ => 0)), (q20, .inl (k20, 60, .inl fun _ => 0)), (q28, .inl (k28, 60, .inl fun _ => 0)), (q36, .inl (k36, 60, .inl fun _ => 0)), (q44, .inl (k44, 60, .inr (.inl fun _ => 0))), (q52, .inl (k52, 60, .inl fun _ => 0)), (q60, .inl (k60, 60, .inl fun _ => 0)), (q68, .inl (k68, 60, .inl fun _ => 0))] := hD
  have hK : va_K D classes [(k12, .int), (k20, .int), (k28, .int), (k36, .int), (k44, .long), (k52, .int), (k60, .int), (k68, .int)] s := hK
  refine va_putF (D := D) (ci := 3) (v := .ref q68) (ty := .array .int) (C := R_X) (T := F_X) (N := 9) hx hb htb iw_X t_X t_X_ok n_X hown hK hP hD hS 0 rfl rfl 8 (by decide) (htb _ mw_139) (fun _ h9 => h9) rfl hin rfl (by decide +kernel) rfl rfl (Nat.le_of_ble_eq_true rfl) d_X_init_70 (fun H locs hP hD hS => ?_)
  have hP : va_P D classes [(h0, .inr (3, [.int 0, .ref q12, .ref q20, .ref q28, .ref q36, .ref q44, .ref q52, .ref q60, .ref q68])), (q12, .inl (k12, 60, .inl fun _ => 0)), (q20, .inl (k20, 60, .inl fun _ => 0)), (q28, .inl (k28, 60, .inl fun _ => 0)), (q36, .inl (k36, 60, .inl fun _ => 0)), (q44, .inl (k44, 60, .inr (.inl fun _ => 0))), (q52, .inl (k52, 60, .inl fun _ => 0)), (q60, .inl (k60, 60, .inl fun _ => 0)), (q68, .inl (k68, 60, .inl fun _ => 0))] H := hP
  have hD : va_D A [(h0, .inr (3, [.int 0, .ref q12, .ref q20, .ref q28, .ref q36, .ref q44, .ref q52, .ref q60, .ref q68])), (q12, .inl (k12, 60, .inl fun _ => 0)), (q20, .inl (k20, 60, .inl fun _ => 0)), (q28, .inl (k28, 60, .inl fun _ => 0)), (q36, .inl (k36, 60, .inl fun _ => 0)), (q44, .inl (k44, 60, .inr (.inl fun _ => 0))), (q52, .inl (k52, 60, .inl fun _ => 0)), (q60, .inl (k60, 60, .inl fun _ => 0)), (q68, .inl (k68, 60, .inl fun _ => 0))] := hD
  exact hret ((fun j => [q12, q20, q28, q36, q44, q52, q60, q68].getD (j - 16) 0), (fun j => [k12, k20, k28, k36, k44, k52, k60, k68].getD (j - 16) k12)) _ _ _ _ _ _ hP hK hD hS (Nat.le_of_ble_eq_true rfl) (Nat.le_of_ble_eq_true rfl) d_X_init_73
