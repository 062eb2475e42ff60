/-! The frame: what a callee's world leaves of the rest -/
section FR
variable {D : va_G} {cl : List vw_C} {A : Nat → Prop} {w w' wr w0 : va_W} {H H1 : Heap}
theorem fr_off (hPr : va_P D cl wr H) (hDD : va_D A (wr ++ w0)) {k : Nat} {q : Nat × va_E} (hq : wr[k]? = some q) : q.1 < H.size ∧ ¬ va_A w0 H.size q.1 := by
  have hl := (hPr k q hq).lt
  refine ⟨hl, fun h => ?_⟩
  rcases h with ⟨k2, e, h⟩ | h
  · have hk : k < wr.length := (List.getElem?_eq_some_iff.mp hq).1
    have h1 : (wr ++ w0)[k]? = some q := by rw [List.getElem?_append_left hk]; exact hq
    have h2 : (wr ++ w0)[wr.length + k2]? = some (q.1, e) := by rw [List.getElem?_append_right (Nat.le_add_right _ _), Nat.add_sub_cancel_left]; exact h
    have := hDD.1 k (wr.length + k2) q (q.1, e) h1 h2 rfl
    omega
  · omega
theorem fr_keep (hPr : va_P D cl wr H) (hDD : va_D A (wr ++ w0)) (hk : ∀ q : Nat, q < H.size → ¬ va_A w0 H.size q → H1[q]? = H[q]?) : va_P D cl wr H1 :=
  hPr.kept (fun k q hq => hk q.1 (fr_off hPr hDD hq).1 (fr_off hPr hDD hq).2)
theorem fr_l (hDD : va_D A (wr ++ w0)) : va_D A wr := by
  refine ⟨fun i j p q hp hq => ?_, fun k q hq => ?_⟩
  · exact hDD.1 i j p q (by rw [List.getElem?_append_left (List.getElem?_eq_some_iff.mp hp).1]; exact hp) (by rw [List.getElem?_append_left (List.getElem?_eq_some_iff.mp hq).1]; exact hq)
  · exact hDD.2 k q (by rw [List.getElem?_append_left (List.getElem?_eq_some_iff.mp hq).1]; exact hq)
theorem fr_at {k : Nat} {q : Nat × va_E} (hq : w0[k]? = some q) : (wr ++ w0)[wr.length + k]? = some q := by
  rw [List.getElem?_append_right (Nat.le_add_right _ _), Nat.add_sub_cancel_left]; exact hq
theorem fr_r (hDD : va_D A (wr ++ w0)) : va_D A w0 := by
  refine ⟨fun i j p q hp hq hpq => ?_, fun k q hq => ?_⟩
  · have := hDD.1 _ _ p q (fr_at hp) (fr_at hq) hpq
    omega
  · exact hDD.2 _ q (fr_at hq)
theorem fr_D {w1 : va_W} (hPr : va_P D cl wr H) (hDD : va_D A (wr ++ w0)) (hF : ∀ q, va_A w0 H.size q → A q) (hD1 : va_D (va_A w0 H.size) w1) : va_D A (wr ++ w1) :=
  va_D.app (fr_l hDD) (hD1.weaken (fun k q _ h => hF q.1 h)) (fun i j x y hx hy hxy => (fr_off hPr hDD hx).2 (by rw [hxy]; exact hD1.2 j y hy))
theorem fr_fst {w1 : va_W} (e : w1.map (·.1) = w0.map (·.1)) (hDD : va_D A (wr ++ w0)) : va_D A (wr ++ w1) :=
  D_fst (w := wr ++ w0) (by rw [List.map_append, List.map_append, e]) hDD
end FR
section FR2
variable {p : Program} {l : Launch} {e : Env} {R : Room} {s : State} {m : MethodId} {args : Array Value} {below : List Frame} {meth : Method} {c : Code} {H : Heap} {locs : List Loc} {cells slots : Nat} {Q : State → Prop}
variable {y : MethodName} {rm : Room} {As rest st0 : List Value} {D : va_G} {cl : List vw_C} {w w' w0 wr : va_W} {wf : AK → va_W} {tf : AK → List (ClassId × FieldType)} {tys : List (ClassId × FieldType)} {cc bytes : ByteArray} {maxL nL n index b pc mc ms : Nat} {r : Int32} {ret : Option FieldType} {own C : String} {ls : Array Slot} {A : Nat → Prop} {H0 : Heap}
theorem gI (h5 : Cond.code y bytes maxL ret ∈ TB) : GoodIn TB (.code y bytes maxL ret :: TB) := by
  intro w hw
  have hm : w ∈ TB := by
    rcases List.mem_cons.mp hw with rfl | h
    · exact h5
    · exact h
  exact ⟨hm, good_of_word (tb_good w hm)⟩
theorem ctI (S : CallFix p m c cc nL s args TB own) (hM : CT l y (.code y bytes maxL none :: TB) rm (.ref b :: As) D cl w0 wf tf mc ms) (cw : CallB R s args own index y bytes maxL none (.code y bytes maxL none :: TB) rm mc ms n ∧ y.name = "<init>" ∧ (Cond.instanceMethod y).before args s = true)
    (hP0 : va_P D cl w0 H) (hPr : va_P D cl wr H) (hDD : va_D A (wr ++ w0)) (hK : va_K D cl [] s) (hS : va_S A H0 H locs) (hA : ∀ q, H0.size ≤ q → A q)
    (hn : As.length = n) (hls : ls.size = nL) (hst : st0 = As.reverse ++ .ref b :: rest) (hroom : 2 * (F0 m pc ls st0).monitorRoom + (rest.map fun v => v.category).sum ≤ 8) (hdg : decode cc pc = .ok (.invokespecial index, 3)) (hf : cells + mc ≤ R.cells ∧ slots + ms ≤ R.slots)
    (kk : ∀ (u : AK) (H1 : Heap) (locs1 : List Loc), va_P D cl (wr ++ wf u) H1 → va_D A (wr ++ wf u) → va_K D cl (tf u) s → va_S A H0 H1 locs1 → W p l e R s m args below meth c H1 locs1 (cells + mc) (slots + ms) Q (F0 m (pc + 3) ls rest)) : W p l e R s m args below meth c H locs cells slots Q (F0 m pc ls st0) := by
  have hF := free_W (w := w0) hS (fr_r hDD) hA
  refine va_callv (va_runI (As := As) (rest := rest) (b := b) S (hM H.size) cw ⟨fb_W, fun U hU hW => ⟨rfl, by rw [hU], by rw [hU]; exact hP0, va_K.moved hW.alike hK, (fr_r hDD).weaken (fun _ _ _ _ => trivial)⟩⟩ rfl hn hls hst hroom hdg hf) hS (fun q _ h => hF q h) hF (fun u t H1 locs1 ht hvm hw hB hz hk hS1 => ?_)
  obtain ⟨hP1, hK1, hD1⟩ := hB
  rw [ht] at hP1
  exact kk u H1 locs1 ((fr_keep hPr hDD hk).app hP1) (fr_D hPr hDD hF hD1) (va_K.moved hvm.symm hK1) hS1
theorem wrVF (S : CallFix p m c cc nL s args TB own) (hM : WRi l y (.code y bytes maxL ret :: TB) rm (.ref b :: As) D cl w w' tys r) (cw : CallW R s args own C index y bytes maxL ret (.code y bytes maxL ret :: TB) rm 0 0 n) (hP : va_P D cl w H) (hPr : va_P D cl wr H) (hDD : va_D A (wr ++ w)) (hfst : w'.map (·.1) = w.map (·.1)) (hK : va_K D cl tys s) (hS : va_S A H0 H locs) (hA : ∀ q, H0.size ≤ q → A q)
    (hrv : ∃ cell : Cell, H[b]? = some cell ∧ cell.vm.isStatics = false ∧ s.vm.findClass C = some cell.cls) (hn : As.length = n) (hls : ls.size = nL) (hst : st0 = As.reverse ++ .ref b :: rest) (hroom : 2 * (F0 m pc ls st0).monitorRoom + (rest.map fun v => v.category).sum ≤ 8) (hdg : decode cc pc = .ok (.invokevirtual index, 3)) (hf : cells ≤ R.cells ∧ slots ≤ R.slots)
    (kk : ∀ (H1 : Heap) (locs1 : List Loc), va_P D cl w' H1 → va_P D cl wr H1 → va_D A (wr ++ w') → va_S A H0 H1 locs1 → W p l e R s m args below meth c H1 locs1 cells slots Q (F0 m (pc + 3) ls (.int r :: rest))) : W p l e R s m args below meth c H locs cells slots Q (F0 m pc ls st0) := by
  have hD := fr_r hDD
  refine va_calli (va_runV (As := As) (rest := rest) (b := b) S (hM H.size) cw ⟨fb_W, hrv, fun U hU hW => ⟨rfl, by rw [hU], by rw [hU]; exact hP, va_K.moved hW.alike hK, hD.weaken (fun _ _ _ _ => trivial)⟩⟩ rfl hn hls hst hroom hdg hf) hS (fun q _ h => free_W hS hD hA q h) (free_W hS hD hA) (fun r' u t H1 locs1 ht hvm hw hB hz hk hS1 => ?_)
  subst hw
  exact kk H1 locs1 (by rw [← ht]; exact hB) (fr_keep hPr hDD hk) (fr_fst hfst hDD) hS1
end FR2
def ad0 (h0 : Nat) (f : Nat → Nat) : Nat → Nat := fun j => if j = 0 then h0 else f j
def wM0 (h0 : Nat) (u : AK) : va_W := wA (ad0 h0 u.1) u.2 (fun _ _ => 0) (fun _ => 0) (fun _ => 0)
def tM0 (u : AK) : List (ClassId × FieldType) := tA u.2
set_option maxHeartbeats 4000000 in
set_option maxRecDepth 100000 in
theorem c_M_init (l : Launch) (D : va_G) (h0 : Nat) : CT l y_M_init (.code y_M_init b_M_init 1 none :: TB) ({ frames := 2, cells := 23, slots := 1503, locals := 32 } : Room) [.ref h0] D classes [(h0, .inr (0, [.null, .null, .null, .int 0, .int 0]))] (wM0 h0) tM0 23 1503 := by
  refine ct_of (by decide +kernel) rfl (Nat.le_of_ble_eq_true rfl) ?_
  intro p e s m args below meth c Q ls A hx hb hml htb hown hin hP hK hD hS hA hl hret
  have hl : lv_has ls 1 [(0, .ref h0)] := hl
  have hK0 : va_K D classes [] s := hK
  refine lv_aload_n hx hb d_M_init_0 rfl (lv_at hl 0 rfl) ?_
  refine W.objInit hx hb hown (htb _ mw_46) (htb _ mw_47) (htb _ mw_48) rfl (by rw [hml]; exact hl.1) rfl d_M_init_1 (Nat.le_of_ble_eq_true rfl) (Nat.le_of_ble_eq_true rfl) ?_
  refine W.eq (g2 := F0 m 4 ls []) rfl ?_
  refine lv_aload_n hx hb d_M_init_4 rfl (lv_at hl 0 rfl) ?_
  refine va_new (ci := 1) (fs := [.int 0, .null, .null, .null, .null, .null, .null, .null]) (C := R_B) (T := F_B) (N := 8) hx hb htb iw_B t_B t_B_ok hown (htb _ mw_49) (htb _ mw_50) (htb _ mw_28) hK0 hP hD hS hA rfl (fun j hj => by rcases (show j = 0 ∨ j = 1 ∨ j = 2 ∨ j = 3 ∨ j = 4 ∨ j = 5 ∨ j = 6 ∨ j = 7 by omega) with rfl | rfl | rfl | rfl | rfl | rfl | rfl | rfl <;> rfl) (Nat.le_of_ble_eq_true rfl) (Nat.le_of_ble_eq_true rfl) d_M_init_5 (fun q5 H hP hD hS => ?_)
  have hP : va_P D classes (([(h0, .inr (0, [.null, .null, .null, .int 0, .int 0]))]) ++ [(q5, .inr (1, [.int 0, .null, .null, .null, .null, .null, .null, .null]))]) H := hP
  have hD : va_D A (([(h0, .inr (0, [.null, .null, .null, .int 0, .int 0]))]) ++ [(q5, .inr (1, [.int 0, .null, .null, .null, .null, .null, .null, .null]))]) := hD
  refine lv_dup hx hb d_M_init_8 rfl ?_
  have hPl : va_P D classes ([(h0, .inr (0, [.null, .null, .null, .int 0, .int 0]))]) H := fun k z h => hP k z (by rw [List.getElem?_append_left (List.getElem?_eq_some_iff.mp h).1]; exact h)
  have hPn : va_P D classes [(q5, .inr (1, [.int 0, .null, .null, .null, .null, .null, .null, .null]))] H := fun k z h => hP _ z (fr_at (wr := ([(h0, .inr (0, [.null, .null, .null, .int 0, .int 0]))])) h)
  refine ctI (As := []) (rest := [.ref q5, .ref h0]) (b := q5) ⟨hx, hb, hml, hown, htb⟩ (c_B_init l D q5) (cwI 0 htb (gI mw_53) rfl rfl rfl (htb _ mw_28) (htb _ mw_51) (htb _ mw_52) rfl (by decide +kernel) ⟨Nat.le_of_ble_eq_true rfl, Nat.le_of_ble_eq_true rfl⟩) hPn hPl hD hK0 hS hA rfl hl.1 rfl (lv_room (Nat.le_of_ble_eq_true rfl)) d_M_init_9 ⟨Nat.le_of_ble_eq_true rfl, Nat.le_of_ble_eq_true rfl⟩ (fun uB H locs hP hD hKB hS => ?_)
  refine va_putF (D := D) (ci := 0) (v := .ref q5) (ty := .object "BillMatch$Bills") (C := R_M) (T := F_M) (N := 5) hx hb htb iw_M t_M t_M_ok n_M hown hK0 hP hD hS 0 rfl rfl 0 (by decide) (htb _ mw_161) (fun _ h9 => h9) rfl hin rfl (by decide +kernel) rfl rfl (Nat.le_of_ble_eq_true rfl) d_M_init_12 (fun H locs hP hD hS => ?_)
  have hP : va_P D classes ([(h0, .inr (0, [.ref q5, .null, .null, .int 0, .int 0]))] ++ w0_B q5 uB) H := hP
  have hD : va_D A ([(h0, .inr (0, [.ref q5, .null, .null, .int 0, .int 0]))] ++ w0_B q5 uB) := hD
  refine lv_aload_n hx hb d_M_init_15 rfl (lv_at hl 0 rfl) ?_
  refine va_new (ci := 2) (fs := [.int 0, .null, .null, .null, .null, .null]) (C := R_N) (T := F_N) (N := 6) hx hb htb iw_N t_N t_N_ok hown (htb _ mw_89) (htb _ mw_90) (htb _ mw_29) hK0 hP hD hS hA rfl (fun j hj => by rcases (show j = 0 ∨ j = 1 ∨ j = 2 ∨ j = 3 ∨ j = 4 ∨ j = 5 by omega) with rfl | rfl | rfl | rfl | rfl | rfl <;> rfl) (Nat.le_of_ble_eq_true rfl) (Nat.le_of_ble_eq_true rfl) d_M_init_16 (fun q16 H hP hD hS => ?_)
  have hP : va_P D classes (([(h0, .inr (0, [.ref q5, .null, .null, .int 0, .int 0]))] ++ w0_B q5 uB) ++ [(q16, .inr (2, [.int 0, .null, .null, .null, .null, .null]))]) H := hP
  have hD : va_D A (([(h0, .inr (0, [.ref q5, .null, .null, .int 0, .int 0]))] ++ w0_B q5 uB) ++ [(q16, .inr (2, [.int 0, .null, .null, .null, .null, .null]))]) := hD
  refine lv_dup hx hb d_M_init_19 rfl ?_
  have hPl : va_P D classes ([(h0, .inr (0, [.ref q5, .null, .null, .int 0, .int 0]))] ++ w0_B q5 uB) H := fun k z h => hP k z (by rw [List.getElem?_append_left (List.getElem?_eq_some_iff.mp h).1]; exact h)
  have hPn : va_P D classes [(q16, .inr (2, [.int 0, .null, .null, .null, .null, .null]))] H := fun k z h => hP _ z (fr_at (wr := ([(h0, .inr (0, [.ref q5, .null, .null, .int 0, .int 0]))] ++ w0_B q5 uB)) h)
  refine ctI (As := []) (rest := [.ref q16, .ref h0]) (b := q16) ⟨hx, hb, hml, hown, htb⟩ (c_N_init l D q16) (cwI 0 htb (gI mw_93) rfl rfl rfl (htb _ mw_29) (htb _ mw_91) (htb _ mw_92) rfl (by decide +kernel) ⟨Nat.le_of_ble_eq_true rfl, Nat.le_of_ble_eq_true rfl⟩) hPn hPl hD hK0 hS hA rfl hl.1 rfl (lv_room (Nat.le_of_ble_eq_true rfl)) d_M_init_20 ⟨Nat.le_of_ble_eq_true rfl, Nat.le_of_ble_eq_true rfl⟩ (fun uN H locs hP hD hKN hS => ?_)
  refine va_putF (D := D) (ci := 0) (v := .ref q16) (ty := .object "BillMatch$Lines") (C := R_M) (T := F_M) (N := 5) hx hb htb iw_M t_M t_M_ok n_M hown hK0 hP hD hS 0 rfl rfl 1 (by decide) (htb _ mw_162) (fun _ h9 => h9) rfl hin rfl (by decide +kernel) rfl rfl (Nat.le_of_ble_eq_true rfl) d_M_init_23 (fun H locs hP hD hS => ?_)
  have hP : va_P D classes ([(h0, .inr (0, [.ref q5, .ref q16, .null, .int 0, .int 0]))] ++ w0_B q5 uB ++ w0_N q16 uN) H := hP
  have hD : va_D A ([(h0, .inr (0, [.ref q5, .ref q16, .null, .int 0, .int 0]))] ++ w0_B q5 uB ++ w0_N q16 uN) := hD
  refine lv_aload_n hx hb d_M_init_26 rfl (lv_at hl 0 rfl) ?_
  refine va_new (ci := 3) (fs := [.int 0, .null, .null, .null, .null, .null, .null, .null, .null]) (C := R_X) (T := F_X) (N := 9) hx hb htb iw_X t_X t_X_ok hown (htb _ mw_118) (htb _ mw_119) (htb _ mw_30) hK0 hP hD hS hA rfl (fun j hj => by rcases (show j = 0 ∨ j = 1 ∨ j = 2 ∨ j = 3 ∨ j = 4 ∨ j = 5 ∨ j = 6 ∨ j = 7 ∨ j = 8 by omega) with rfl | rfl | rfl | rfl | rfl | rfl | rfl | rfl | rfl <;> rfl) (Nat.le_of_ble_eq_true rfl) (Nat.le_of_ble_eq_true rfl) d_M_init_27 (fun q27 H hP hD hS => ?_)
  have hP : va_P D classes (([(h0, .inr (0, [.ref q5, .ref q16, .null, .int 0, .int 0]))] ++ w0_B q5 uB ++ w0_N q16 uN) ++ [(q27, .inr (3, [.int 0, .null, .null, .null, .null, .null, .null, .null, .null]))]) H := hP
  have hD : va_D A (([(h0, .inr (0, [.ref q5, .ref q16, .null, .int 0, .int 0]))] ++ w0_B q5 uB ++ w0_N q16 uN) ++ [(q27, .inr (3, [.int 0, .null, .null, .null, .null, .null, .null, .null, .null]))]) := hD
  refine lv_dup hx hb d_M_init_30 rfl ?_
  have hPl : va_P D classes ([(h0, .inr (0, [.ref q5, .ref q16, .null, .int 0, .int 0]))] ++ w0_B q5 uB ++ w0_N q16 uN) H := fun k z h => hP k z (by rw [List.getElem?_append_left (List.getElem?_eq_some_iff.mp h).1]; exact h)
  have hPn : va_P D classes [(q27, .inr (3, [.int 0, .null, .null, .null, .null, .null, .null, .null, .null]))] H := fun k z h => hP _ z (fr_at (wr := ([(h0, .inr (0, [.ref q5, .ref q16, .null, .int 0, .int 0]))] ++ w0_B q5 uB ++ w0_N q16 uN)) h)
  refine ctI (As := []) (rest := [.ref q27, .ref h0]) (b := q27) ⟨hx, hb, hml, hown, htb⟩ (c_X_init l D q27) (cwI 0 htb (gI mw_122) rfl rfl rfl (htb _ mw_30) (htb _ mw_120) (htb _ mw_121) rfl (by decide +kernel) ⟨Nat.le_of_ble_eq_true rfl, Nat.le_of_ble_eq_true rfl⟩) hPn hPl hD hK0 hS hA rfl hl.1 rfl (lv_room (Nat.le_of_ble_eq_true rfl)) d_M_init_31 ⟨Nat.le_of_ble_eq_true rfl, Nat.le_of_ble_eq_true rfl⟩ (fun uX H locs hP hD hKX hS => ?_)
  refine va_putF (D := D) (ci := 0) (v := .ref q27) (ty := .object "BillMatch$Boxes") (C := R_M) (T := F_M) (N := 5) hx hb htb iw_M t_M t_M_ok n_M hown hK0 hP hD hS 0 rfl rfl 2 (by decide) (htb _ mw_163) (fun _ h9 => h9) rfl hin rfl (by decide +kernel) rfl rfl (Nat.le_of_ble_eq_true rfl) d_M_init_34 (fun H locs hP hD hS => ?_)
  have hP : va_P D classes ([(h0, .inr (0, [.ref q5, .ref q16, .ref q27, .int 0, .int 0]))] ++ w0_B q5 uB ++ w0_N q16 uN ++ w0_X q27 uX) H := hP
  have hD : va_D A ([(h0, .inr (0, [.ref q5, .ref q16, .ref q27, .int 0, .int 0]))] ++ w0_B q5 uB ++ w0_N q16 uN ++ w0_X q27 uX) := hD
  refine lv_aload_n hx hb d_M_init_37 rfl (lv_at hl 0 rfl) ?_
  refine lv_iconst (v := 0) hx hb d_M_init_38 (by decide) ?_
  refine va_put (D := D) (ci := 0) (v := .int 0) (ty := .int) (C := R_M) (T := F_M) (N := 5) hx hb htb iw_M t_M t_M_ok n_M hown hK0 hP hD hS 0 rfl rfl 3 (by decide) (htb _ mw_164) (fun _ h9 => h9) rfl (by decide +kernel) rfl rfl (Nat.le_of_ble_eq_true rfl) d_M_init_39 (fun H locs hP hD hS => ?_)
  have hP : va_P D classes ([(h0, .inr (0, [.ref q5, .ref q16, .ref q27, .int 0, .int 0]))] ++ w0_B q5 uB ++ w0_N q16 uN ++ w0_X q27 uX) H := hP
  have hD : va_D A ([(h0, .inr (0, [.ref q5, .ref q16, .ref q27, .int 0, .int 0]))] ++ w0_B q5 uB ++ w0_N q16 uN ++ w0_X q27 uX) := hD
  refine lv_aload_n hx hb d_M_init_42 rfl (lv_at hl 0 rfl) ?_
  refine lv_iconst (v := 0) hx hb d_M_init_43 (by decide) ?_
  refine va_put (D := D) (ci := 0) (v := .int 0) (ty := .int) (C := R_M) (T := F_M) (N := 5) hx hb htb iw_M t_M t_M_ok n_M hown hK0 hP hD hS 0 rfl rfl 4 (by decide) (htb _ mw_165) (fun _ h9 => h9) rfl (by decide +kernel) rfl rfl (Nat.le_of_ble_eq_true rfl) d_M_init_44 (fun H locs hP hD hS => ?_)
  have hP : va_P D classes ([(h0, .inr (0, [.ref q5, .ref q16, .ref q27, .int 0, .int 0]))] ++ w0_B q5 uB ++ w0_N q16 uN ++ w0_X q27 uX) H := hP
  have hD : va_D A ([(h0, .inr (0, [.ref q5, .ref q16, .ref q27, .int 0, .int 0]))] ++ w0_B q5 uB ++ w0_N q16 uN ++ w0_X q27 uX) := hD
  have hKa : va_K D classes (t0_B uB ++ t0_N uN ++ t0_X uX) s := (hKB.app hKN).app hKX
  exact hret ((fun j => if j = 1 then q5 else if j < 9 then uB.1 j else if j = 9 then q16 else if j < 15 then uN.1 j else if j = 15 then q27 else uX.1 j), (fun j => if j < 9 then uB.2 j else if j < 15 then uN.2 j else uX.2 j)) _ _ _ _ _ _ hP hKa hD hS (Nat.le_of_ble_eq_true rfl) (Nat.le_of_ble_eq_true rfl) d_M_init_47
