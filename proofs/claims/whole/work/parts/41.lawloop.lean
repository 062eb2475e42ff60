/-- all sixteen calls keep the relation -/
def ALL16 (REL : RelT) (l : Launch) : Prop := ∀ (D : va_G) (ad an : Nat → Nat) (kd kn : Nat → ClassId) (g : Nat → Nat → Int32) (z : Nat → Int64) (v : Nat → Int32) (h : Nat → Nat → Int32) (o : Nat → Bool) (u : Nat → Int32), REL g z v h o u → ∀ x y q : Int32,
  (RETS REL l D ad an kd kn g z v h o u y_L_bill b_L_bill 6 [(0, 12, 15, 13), (0, 12, 19, 15)] y_K_bill b_K_bill 4 [.int x, .int y, .int q]) ∧
  (RETS REL l D ad an kd kn g z v h o u y_L_line b_L_line 6 [(0, 12, 15, 13), (0, 12, 19, 15)] y_K_line b_K_line 4 [.int x, .int y, .int q]) ∧
  (RETS REL l D ad an kd kn g z v h o u y_L_box b_L_box 6 [(0, 12, 15, 13), (0, 12, 19, 15)] y_K_box b_K_box 5 [.int x, .int y, .int q]) ∧
  (BOTH REL l D ad an kd kn g z v h o u y_M_on b_M_on 3 y_K_on b_K_on 3 .boolean [.int x, .int y]) ∧
  (BOTH REL l D ad an kd kn g z v h o u y_M_land b_M_land 3 y_K_land b_K_land 3 .boolean [.int x, .int y]) ∧
  (BOTH REL l D ad an kd kn g z v h o u y_M_arrive b_M_arrive 2 y_K_arrive b_K_arrive 2 .boolean [.int x]) ∧
  (RETS REL l D ad an kd kn g z v h o u y_L_amend b_L_amend 6 [(0, 12, 15, 13)] y_K_amend b_K_amend 7 [.int x, .int y, .int q]) ∧
  (RETS REL l D ad an kd kn g z v h o u y_L_title b_L_title 6 [(0, 12, 15, 13)] y_K_title b_K_title 4 [.int x, .int y, .int q]) ∧
  (RETS REL l D ad an kd kn g z v h o u y_L_order b_L_order 6 [(0, 12, 15, 13)] y_K_order b_K_order 4 [.int x, .int y, .int q]) ∧
  (RETS REL l D ad an kd kn g z v h o u y_L_split b_L_split 5 [(0, 10, 13, 13), (0, 10, 17, 15)] y_K_split b_K_split 8 [.int x, .int y]) ∧
  (BOTH REL l D ad an kd kn g z v h o u y_M_leg b_M_leg 3 y_K_leg b_K_leg 3 .boolean [.int x, .int y]) ∧
  (RETS REL l D ad an kd kn g z v h o u y_L_look b_L_look 5 [(0, 10, 13, 39)] y_K_look b_K_look 4 [.int x, .int y]) ∧
  (RETS REL l D ad an kd kn g z v h o u y_L_seen b_L_seen 5 [(0, 10, 13, 39), (0, 10, 17, 44)] y_K_seen b_K_seen 6 [.int x, .int y]) ∧
  (BOTH REL l D ad an kd kn g z v h o u y_M_waits b_M_waits 4 y_K_waits b_K_waits 4 .int [.int x]) ∧
  (RETS REL l D ad an kd kn g z v h o u y_L_like b_L_like 6 [(0, 12, 15, 13)] y_K_like b_K_like 7 [.int x, .int y, .int q]) ∧
  (BOTH REL l D ad an kd kn g z v h o u y_M_count b_M_count 2 y_K_count b_K_count 5 .int [.int x])
theorem and15 (x : Int32) : ∃ k, k < 16 ∧ x &&& 15 = nI k := by
  refine ⟨(x &&& 15).toBitVec.toNat, ?_, ?_⟩
  · rw [Int32.toBitVec_and, BitVec.toNat_and]
    exact Nat.lt_of_le_of_lt Nat.and_le_right (by decide)
  · apply Int32.toBitVec_inj.mp
    show _ = BitVec.ofNat 32 _
    rw [BitVec.ofNat_toNat, BitVec.setWidth_eq]
theorem lt4 {i L : Nat} (hi : i ≤ 2048) (hL : L ≤ 2048) (h : ¬ nI L - 4 < nI i) : i + 4 ≤ L := by
  rcases Nat.lt_or_ge L 4 with q | q
  · exfalso
    have h2 : nI i < 0 ∨ nI L - 4 < nI i := by
      right
      have h3 : nI L - 4 < 0 := by
        rcases (show L = 0 ∨ L = 1 ∨ L = 2 ∨ L = 3 by omega) with rfl | rfl | rfl | rfl <;> decide
      exact Int32.lt_of_lt_of_le h3 (nI_pos' (by omega))
    rcases h2 with h2 | h2
    · exact nI_pos (by omega) h2
    · exact h h2
  · have e : nI L - 4 = nI (L - 4) := by
      obtain ⟨d, rfl⟩ : ∃ d, L = d + 4 := ⟨L - 4, by omega⟩
      rw [Nat.add_sub_cancel, ← nI_add]
      exact Int32.add_sub_cancel _ _
    rw [e] at h
    have : ¬ (L - 4 < i) := fun z => h ((nI_ltI (by omega) (by omega)).mpr z)
    omega
theorem ge4 {i L : Nat} (hi : i ≤ 2048) (hL : L ≤ 2048) (h : nI L - 4 < nI i) : True := trivial
set_option maxHeartbeats 4000000 in
set_option maxRecDepth 100000 in
theorem law_loop {REL : RelT} {p : Program} {l : Launch} {e : Env} {s : State} {m : MethodId} {below : List Frame} {meth : Method} {c : Code} {D : va_G} {ad an : Nat → Nat} {kd kn : Nat → ClassId} {oa : Nat} {ko : ClassId} {b L : Nat} {xs : Nat → Int32}
    (F : LF p l s m #[Value.ref b] c D kd kn ko b L xs) (hr : meth.sig.returnType = ret) (hlocks : meth.locks = false) (hall : ALL16 REL l) :
    ∀ (n j : Nat) (g : Nat → Nat → Int32) (z : Nat → Int64) (v : Nat → Int32) (h : Nat → Nat → Int32) (o : Nat → Bool) (u : Nat → Int32) (fo : Nat → Int64) (H : Heap) (locs : List Loc) (cells slots : Nat) (ls : Array Slot), 4 * j ≤ L → L + 1 ≤ 4 * j + n →
      REL g z v h o u → va_P D classes (wLaw ad an kd kn oa ko g z v h o u fo) H → va_D (LA s) (wLaw ad an kd kn oa ko g z v h o u fo) → va_S (LA s) s.heap H locs → cells ≤ 41 + j → slots ≤ 6400 + 6 * j →
      lv_has ls 7 [(0, .ref b), (1, .ref (ad 0)), (2, .ref (an 0)), (3, .ref oa), (4, .int (nI (4 * j)))] → W p l e room_1 s m #[Value.ref b] below meth c H locs cells slots (lw_Z below #[Value.ref b] s) (F0 m 23 ls []) := by
  obtain ⟨hx, hb, hml, hown, htb, hX, hbl, hKA, hKK, hKO, -, hL⟩ := id F
  have hbA : ¬ LA s b := Nat.not_le.mpr hbl
  intro n
  induction n with
  | zero => intro j g z v h o u fo H locs cells slots ls hj hn; exact absurd hn (by omega)
  | succ n ih =>
    intro j g z v h o u fo H locs cells slots ls hj hn hREL hP hD hS hc hs hl
    refine lv_iload hx hb d_L_law_23 (lv_at hl 4 rfl) ?_
    refine lv_aload_n hx hb d_L_law_25 rfl (lv_at hl 0 rfl) ?_
    refine va_slen hx hb hX hbl hbA hS d_L_law_26 ?_
    refine lv_iconst (v := 4) hx hb d_L_law_27 (by decide) ?_
    refine lv_isub hx hb d_L_law_28 ?_
    refine lv_icmp_gt (tgt := 1072) hx hb d_L_law_29 (by decide) (fun c1 => ?_) (fun c1 => ?_)
    · refine lv_iconst (v := 1) hx hb d_L_law_1072 (by decide) ?_
      refine va_forget (fun q hq => hS.2.2 q hq) ?_
      refine W.widen (k := 1081) (n := 14679) (by omega) (by omega) ?_
      exact lw_ret hx hb hr hlocks d_L_law_1073
    · have hi4 : 4 * j + 4 ≤ L := lt4 (by omega) hL c1
      refine lv_aload_n hx hb d_L_law_32 rfl (lv_at hl 0 rfl) ?_
      refine lv_iload hx hb d_L_law_33 (lv_at hl 4 rfl) ?_
      refine q_sld hx hb hX hbl hbA hS (4 * j) (by omega) (by omega) d_L_law_35 ?_
      refine lv_bipush (v := 15) hx hb d_L_law_36 (by decide) ?_
      refine lv_iand hx hb d_L_law_38 ?_
      have kk : GO REL p l e s m #[Value.ref b] below meth c (lw_Z below #[Value.ref b] s) D ad an kd kn oa ko b (4 * j) (41 + j + 1) (6400 + 6 * j + 6) := by
        intro g z v h o u fo H locs cells slots ls hREL hP hD hS hc hs hl
        refine lv_iinc (v := nI (4 * (j + 1))) (lv' := [(4, .int (nI (4 * (j + 1)))), (0, .ref b), (1, .ref (ad 0)), (2, .ref (an 0)), (3, .ref oa)]) hx hb d_L_law_1066 hl (k := 4) rfl (nI_add (4 * j) 4) (by decide) rfl (fun ls hl => ?_)
        refine lv_goto (tgt := 23) hx hb d_L_law_1069 (by decide) ?_
        exact ih (j + 1) g z v h o u fo H locs cells slots ls (by omega) (by omega) hREL hP hD hS (by omega) (by omega) (lv_sub hl [1, 2, 3, 4, 0] rfl)
      have hA := hall D ad an kd kn g z v h o u hREL (xs (4 * j + 1)) (xs (4 * j + 2)) (xs (4 * j + 3))
      obtain ⟨k, hk, ek⟩ := and15 (xs (4 * j))
      refine W.eq (congrArg (fun z => F0 m 39 ls (.int z :: [])) ek) ?_
      obtain ⟨hbill, hline, hbox, hon, hland, harrive, hamend, htitle, horder, hsplit, hleg, hlook, hseen, hwaits, hlike, hcount⟩ := hA
      rcases (show k = 0 ∨ k = 1 ∨ k = 2 ∨ k = 3 ∨ k = 4 ∨ k = 5 ∨ k = 6 ∨ k = 7 ∨ k = 8 ∨ k = 9 ∨ k = 10 ∨ k = 11 ∨ k = 12 ∨ k = 13 ∨ k = 14 ∨ k = 15 by omega) with rfl | rfl | rfl | rfl | rfl | rfl | rfl | rfl | rfl | rfl | rfl | rfl | rfl | rfl | rfl | rfl
      · refine lv_tableIn (tgt := 116) hx hb d_L_law_39 (by decide) (by decide) rfl (by decide) ?_
        exact law_bill F hi4 hbill hP hD hS (by omega) (by omega) (by omega) (by omega) kk hl
      · refine lv_tableIn (tgt := 196) hx hb d_L_law_39 (by decide) (by decide) rfl (by decide) ?_
        exact law_line F hi4 hline hP hD hS (by omega) (by omega) (by omega) (by omega) kk hl
      · refine lv_tableIn (tgt := 276) hx hb d_L_law_39 (by decide) (by decide) rfl (by decide) ?_
        exact law_box F hi4 hbox hP hD hS (by omega) (by omega) (by omega) (by omega) kk hl
      · refine lv_tableIn (tgt := 356) hx hb d_L_law_39 (by decide) (by decide) rfl (by decide) ?_
        exact law_on F hi4 hon hP hD hS (by omega) (by omega) (by omega) (by omega) kk hl
      · refine lv_tableIn (tgt := 393) hx hb d_L_law_39 (by decide) (by decide) rfl (by decide) ?_
        exact law_land F hi4 hland hP hD hS (by omega) (by omega) (by omega) (by omega) kk hl
      · refine lv_tableIn (tgt := 430) hx hb d_L_law_39 (by decide) (by decide) rfl (by decide) ?_
        exact law_arrive F hi4 harrive hP hD hS (by omega) (by omega) (by omega) (by omega) kk hl
      · refine lv_tableIn (tgt := 455) hx hb d_L_law_39 (by decide) (by decide) rfl (by decide) ?_
        exact law_amend F hi4 hamend hP hD hS (by omega) (by omega) (by omega) (by omega) kk hl
      · refine lv_tableIn (tgt := 535) hx hb d_L_law_39 (by decide) (by decide) rfl (by decide) ?_
        exact law_title F hi4 htitle hP hD hS (by omega) (by omega) (by omega) (by omega) kk hl
      · refine lv_tableIn (tgt := 615) hx hb d_L_law_39 (by decide) (by decide) rfl (by decide) ?_
        exact law_order F hi4 horder hP hD hS (by omega) (by omega) (by omega) (by omega) kk hl
      · refine lv_tableIn (tgt := 695) hx hb d_L_law_39 (by decide) (by decide) rfl (by decide) ?_
        exact law_split F hi4 hsplit hP hD hS (by omega) (by omega) (by omega) (by omega) kk hl
      · refine lv_tableIn (tgt := 763) hx hb d_L_law_39 (by decide) (by decide) rfl (by decide) ?_
        exact law_leg F hi4 hleg hP hD hS (by omega) (by omega) (by omega) (by omega) kk hl
      · refine lv_tableIn (tgt := 800) hx hb d_L_law_39 (by decide) (by decide) rfl (by decide) ?_
        exact law_look F hi4 hlook hP hD hS (by omega) (by omega) (by omega) (by omega) kk hl
      · refine lv_tableIn (tgt := 868) hx hb d_L_law_39 (by decide) (by decide) rfl (by decide) ?_
        exact law_seen F hi4 hseen hP hD hS (by omega) (by omega) (by omega) (by omega) kk hl
      · refine lv_tableIn (tgt := 936) hx hb d_L_law_39 (by decide) (by decide) rfl (by decide) ?_
        exact law_waits F hi4 hwaits hP hD hS (by omega) (by omega) (by omega) (by omega) kk hl
      · refine lv_tableIn (tgt := 961) hx hb d_L_law_39 (by decide) (by decide) rfl (by decide) ?_
        exact law_like F hi4 hlike hP hD hS (by omega) (by omega) (by omega) (by omega) kk hl
      · refine lv_tableIn (tgt := 1041) hx hb d_L_law_39 (by decide) (by decide) rfl (by decide) ?_
        exact law_count F hi4 hcount hP hD hS (by omega) (by omega) (by omega) (by omega) kk hl
set_option maxHeartbeats 4000000 in
set_option maxRecDepth 100000 in
theorem law_xg {s : State} {b : Nat} (hts : ∀ w ∈ lw_tbl, w.before #[Value.ref b] s = true) (hgv : (Jvm.Cond.and given_1 narrow_1).before #[Value.ref b] s = true) : XG xStr s.heap.size s s.heap := by
  have hfl := flat_of_before _ hgv
  refine ⟨⟨?_, ?_, ?_, ?_⟩, va_Nc.of (hfl _ (by decide +kernel)), va_Nc.of (hfl _ (by decide +kernel))⟩
  · exact xZ.of (args := #[Value.ref b]) (hts _ (List.mem_of_getElem? (i := 322) (by decide +kernel))) (hfl _ (by decide +kernel))
  · exact xZ.of (args := #[Value.ref b]) (hts _ (List.mem_of_getElem? (i := 324) (by decide +kernel))) (hfl _ (by decide +kernel))
  · intro w hw a
    exact cd_any (List.mem_filter.mp hw).2 (hts w (List.mem_filter.mp hw).1)
  · have key : ∀ (k : Nat) (tx : String), (Cond.stringRef R_M k tx).before #[Value.ref b] s = true → (Cond.exactly (.string R_M k) "java/lang/String").before #[Value.ref b] s = true → ∃ sa : Nat, vk_R R_M k tx sa s := by
      intro k tx h1 h2
      obtain ⟨a2, c, cA, kA, q1, -⟩ := Cond.exactly_spec (args := #[Value.ref b]) (first := s) (o := none) (s := s) (idx := []) (t := .string R_M k) (cls := "java/lang/String") h2
      exact ⟨a2, h1, q1⟩
    intro q hq
    simp only [xStr, List.mem_cons, List.not_mem_nil, or_false] at hq
    rcases hq with rfl | rfl | rfl | rfl | rfl | rfl | rfl | rfl | rfl | rfl | rfl | rfl | rfl | rfl | rfl
    · exact key _ _ (hts _ (List.mem_of_getElem? (i := 337) (by decide +kernel))) (hfl _ (by decide +kernel))
    · exact key _ _ (hts _ (List.mem_of_getElem? (i := 377) (by decide +kernel))) (hfl _ (by decide +kernel))
    · exact key _ _ (hts _ (List.mem_of_getElem? (i := 408) (by decide +kernel))) (hfl _ (by decide +kernel))
    · exact key _ _ (hts _ (List.mem_of_getElem? (i := 413) (by decide +kernel))) (hfl _ (by decide +kernel))
    · exact key _ _ (hts _ (List.mem_of_getElem? (i := 425) (by decide +kernel))) (hfl _ (by decide +kernel))
    · exact key _ _ (hts _ (List.mem_of_getElem? (i := 430) (by decide +kernel))) (hfl _ (by decide +kernel))
    · exact key _ _ (hts _ (List.mem_of_getElem? (i := 450) (by decide +kernel))) (hfl _ (by decide +kernel))
    · exact key _ _ (hts _ (List.mem_of_getElem? (i := 468) (by decide +kernel))) (hfl _ (by decide +kernel))
    · exact key _ _ (hts _ (List.mem_of_getElem? (i := 477) (by decide +kernel))) (hfl _ (by decide +kernel))
    · exact key _ _ (hts _ (List.mem_of_getElem? (i := 485) (by decide +kernel))) (hfl _ (by decide +kernel))
    · exact key _ _ (hts _ (List.mem_of_getElem? (i := 486) (by decide +kernel))) (hfl _ (by decide +kernel))
    · exact key _ _ (hts _ (List.mem_of_getElem? (i := 522) (by decide +kernel))) (hfl _ (by decide +kernel))
    · exact key _ _ (hts _ (List.mem_of_getElem? (i := 546) (by decide +kernel))) (hfl _ (by decide +kernel))
    · exact key _ _ (hts _ (List.mem_of_getElem? (i := 555) (by decide +kernel))) (hfl _ (by decide +kernel))
    · exact key _ _ (hts _ (List.mem_of_getElem? (i := 573) (by decide +kernel))) (hfl _ (by decide +kernel))
set_option maxHeartbeats 4000000 in
set_option maxRecDepth 100000 in
theorem law_start {REL : RelT} {p : Program} {e : Env} {s : State} {m : MethodId} {below : List Frame} {meth : Method} {c : Code} (l : Launch) {b L : Nat} {xs : Nat → Int32} (hL : L ≤ 2048) (C0 : lw_At p s m meth c b L xs) (hall : ALL16 REL l) (hR0 : REL (fun _ _ => 0) (fun _ => 0) (fun _ => 0) (fun _ _ => 0) (fun _ => false) (fun _ => 0)) : W p l e room_1 s m #[Value.ref b] below meth c s.heap [] 0 0 (lw_Z below #[Value.ref b] s) (entryFrame m ([Value.ref b] : List Value).toArray 7) := by
  obtain ⟨hx, hb, hr, hml, hown, hts, hX, hbl, hlocks, hgv⟩ := id C0
  have hown : s.vm.findClass R_L = some m.cls := hown
  have htb : ∀ w ∈ TB, w.before #[Value.ref b] s = true := fun w hw => hts w (List.mem_filter.mp hw).1
  have hA : ∀ q : Nat, s.heap.size ≤ q → LA s q := fun _ h => h
  have hbA : ¬ LA s b := Nat.not_le.mpr hbl
  obtain ⟨c0, iS0, hKn0⟩ := u_known (C := R_M) (T := F_M) (N := 5) (n := 5) htb iw_M (htb _ mw_42)
  obtain ⟨c1, iS1, hKn1⟩ := u_known (C := R_B) (T := F_B) (N := 8) (n := 8) htb iw_B (htb _ mw_50)
  obtain ⟨c2, iS2, hKn2⟩ := u_known (C := R_N) (T := F_N) (N := 6) (n := 6) htb iw_N (htb _ mw_90)
  obtain ⟨c3, iS3, hKn3⟩ := u_known (C := R_X) (T := F_X) (N := 9) (n := 9) htb iw_X (htb _ mw_119)
  obtain ⟨c4, iS4, hKn4⟩ := u_known (C := R_K) (T := F_K) (N := 22) (n := 22) htb iw_K (htb _ mw_591)
  obtain ⟨D, hKc⟩ : ∃ D : va_G, ∀ (k : Nat) (q : vw_C), classes[k]? = some q → u_Kn s q.1 q.2.1 q.2.2 (D.1 k) (D.2 k) := by
    refine ⟨(fun k => if k = 0 then c0 else if k = 1 then c1 else if k = 2 then c2 else if k = 3 then c3 else c4, fun k => if k = 0 then iS0 else if k = 1 then iS1 else if k = 2 then iS2 else if k = 3 then iS3 else iS4), ?_⟩
    intro k q hq
    match k, hq with
    | 0, hq => cases hq; exact hKn0
    | 1, hq => cases hq; exact hKn1
    | 2, hq => cases hq; exact hKn2
    | 3, hq => cases hq; exact hKn3
    | 4, hq => cases hq; exact hKn4
    | k + 5, hq => simp [classes] at hq
  have hS : va_S (LA s) s.heap s.heap [] := va_S.rf
  have hK0 : va_K D classes [] s := ⟨hKc, fun k q h => by simp at h⟩
  have hP : va_P D classes [] s.heap := fun k q h => by simp at h
  have hD : va_D (LA s) [] := ⟨fun i j p q h => by simp at h, fun k q h => by simp at h⟩
  have hl := lv_entry ([.ref b]) (n := 7) (Nat.le_of_ble_eq_true rfl)
  rw [lg_entry_eq]
  generalize (lg_sl ([.ref b]) ++ List.replicate (7 - (lg_sl ([.ref b])).length) Slot.unset).toArray = ls at hl ⊢
  have hl : lv_has ls 7 [(0, .ref b)] := hl
  refine va_new (ci := 0) (fs := [.null, .null, .null, .int 0, .int 0]) (C := R_M) (T := F_M) (N := 5) hx hb htb iw_M t_M t_M_ok hown (htb _ mw_41) (htb _ mw_42) (htb _ mw_27) hK0 hP hD hS hA rfl (fun j hj => by rcases (show j = 0 ∨ j = 1 ∨ j = 2 ∨ j = 3 ∨ j = 4 by omega) with rfl | rfl | rfl | rfl | rfl <;> rfl) (Nat.le_of_ble_eq_true rfl) (Nat.le_of_ble_eq_true rfl) d_L_law_0 (fun q0 H hP hD hS => ?_)
  have hP : va_P D classes ([] ++ [(q0, .inr (0, [.null, .null, .null, .int 0, .int 0]))]) H := hP
  have hD : va_D (LA s) ([] ++ [(q0, .inr (0, [.null, .null, .null, .int 0, .int 0]))]) := hD
  refine lv_dup hx hb d_L_law_3 rfl ?_
  refine ctI (wr := []) (As := []) (rest := [.ref q0]) (b := q0) ⟨hx, hb, hml, hown, htb⟩ (c_M_init l D q0) (cwI 0 htb (gI mw_45) rfl rfl rfl (htb _ mw_27) (htb _ mw_43) (htb _ mw_44) rfl (by decide +kernel) ⟨Nat.le_of_ble_eq_true rfl, Nat.le_of_ble_eq_true rfl⟩) (va_P_r hP) (va_P_l hP) hD hK0 hS hA rfl hl.1 rfl (lv_room (Nat.le_of_ble_eq_true rfl)) d_L_law_4 ⟨Nat.le_of_ble_eq_true rfl, Nat.le_of_ble_eq_true rfl⟩ (fun uM H locs hP hD hKA hS => ?_)
  have hP : va_P D classes (wM0 q0 uM) H := hP
  have hD : va_D (LA s) (wM0 q0 uM) := hD
  refine lv_astore_n (lv' := [(1, .ref q0), (0, .ref b)]) hx hb d_L_law_7 rfl hl (by decide) rfl (fun ls hl => ?_)
  refine va_new (ci := 4) (fs := [.int 0, .int 0, .int 0, .int 0, .int 0, .int 0, .int 0, .null, .null, .null, .null, .null, .null, .null, .null, .null, .null, .null, .null, .null, .null, .null]) (C := R_K) (T := F_K) (N := 22) hx hb htb iw_K t_K t_K_ok hown (htb _ mw_590) (htb _ mw_591) (htb _ mw_31) hK0 hP hD hS hA rfl (fun j hj => by rcases (show j = 0 ∨ j = 1 ∨ j = 2 ∨ j = 3 ∨ j = 4 ∨ j = 5 ∨ j = 6 ∨ j = 7 ∨ j = 8 ∨ j = 9 ∨ j = 10 ∨ j = 11 ∨ j = 12 ∨ j = 13 ∨ j = 14 ∨ j = 15 ∨ j = 16 ∨ j = 17 ∨ j = 18 ∨ j = 19 ∨ j = 20 ∨ j = 21 by omega) with rfl | rfl | rfl | rfl | rfl | rfl | rfl | rfl | rfl | rfl | rfl | rfl | rfl | rfl | rfl | rfl | rfl | rfl | rfl | rfl | rfl | rfl <;> rfl) (Nat.le_of_ble_eq_true rfl) (Nat.le_of_ble_eq_true rfl) d_L_law_8 (fun q1 H hP hD hS => ?_)
  refine lv_dup hx hb d_L_law_11 rfl ?_
  refine ctI (wr := wM0 q0 uM) (As := []) (rest := [.ref q1]) (b := q1) ⟨hx, hb, hml, hown, htb⟩ (c_K_init l D q1) (cwI 0 htb (gI mw_594) rfl rfl rfl (htb _ mw_31) (htb _ mw_592) (htb _ mw_593) rfl (by decide +kernel) ⟨Nat.le_of_ble_eq_true rfl, Nat.le_of_ble_eq_true rfl⟩) (va_P_r hP) (va_P_l hP) hD hK0 hS hA rfl hl.1 rfl (lv_room (Nat.le_of_ble_eq_true rfl)) d_L_law_12 ⟨Nat.le_of_ble_eq_true rfl, Nat.le_of_ble_eq_true rfl⟩ (fun uK H locs hP hD hKK hS => ?_)
  refine lv_astore_n (lv' := [(2, .ref q1), (1, .ref q0), (0, .ref b)]) hx hb d_L_law_15 rfl hl (by decide) rfl (fun ls hl => ?_)
  refine lv_iconst (v := 1) hx hb d_L_law_16 (by decide) ?_
  refine va_newa (atype := .long) (a0 := (1, .inr (.inl (fun _ => 0)))) (ty := .long) (N' := 1) hx hb (htb _ mw_160) rfl hK0 hP hD hS hA (fun cA => rfl) (by decide) (by decide) (by decide) (Nat.le_of_ble_eq_true rfl) (Nat.le_of_ble_eq_true rfl) d_L_law_17 (fun oa ko H hKO hP hD hS => ?_)
  have hKO : va_K D classes [(ko, .long)] s := hKO
  refine lv_astore_n (lv' := [(3, .ref oa), (2, .ref q1), (1, .ref q0), (0, .ref b)]) hx hb d_L_law_19 rfl hl (by decide) rfl (fun ls hl => ?_)
  refine lv_iconst (v := 0) hx hb d_L_law_20 (by decide) ?_
  refine lv_istore (lv' := [(4, .int 0), (3, .ref oa), (2, .ref q1), (1, .ref q0), (0, .ref b)]) hx hb d_L_law_21 hl (by decide) rfl (fun ls hl => ?_)
  have hP2 : va_P D classes ((wM0 q0 uM ++ wK0 q1 uK) ++ wO oa ko (fun _ => 0)) H := hP
  have hD2 : va_D (LA s) ((wM0 q0 uM ++ wK0 q1 uK) ++ wO oa ko (fun _ => 0)) := hD
  have hP3 : va_P D classes (wK0 q1 uK ++ (wO oa ko (fun _ => 0) ++ wM0 q0 uM)) H := (va_P_r (va_P_l hP2)).app ((va_P_r hP2).app (va_P_l (va_P_l hP2)))
  have hD3 : va_D (LA s) (wK0 q1 uK ++ (wO oa ko (fun _ => 0) ++ wM0 q0 uM)) := by
    rw [List.append_assoc] at hD2
    have := D_swap hD2
    rw [List.append_assoc] at this
    exact this
  have F : LF p l s m #[Value.ref b] c D uM.2 uK.2 ko b L xs := ⟨hx, hb, hml, hown, htb, hX, hbl, hKA, hKK, hKO, law_xg hts hgv, hL⟩
  have hl : lv_has ls 7 [(4, .int (nI (4 * 0))), (3, .ref oa), (2, .ref (ad0 q1 uK.1 0)), (1, .ref (ad0 q0 uM.1 0)), (0, .ref b)] := hl
  exact law_loop (ad := ad0 q0 uM.1) (an := ad0 q1 uK.1) (kd := uM.2) (kn := uK.2) (oa := oa) (ko := ko) F hr hlocks hall (L + 1) 0 (fun _ _ => 0) (fun _ => 0) (fun _ => 0) (fun _ _ => 0) (fun _ => false) (fun _ => 0) (fun _ => 0) H _ _ _ ls (by omega) (by omega) hR0 hP3 hD3 hS (Nat.le_of_ble_eq_true rfl) (Nat.le_of_ble_eq_true rfl) (lv_sub hl [4, 3, 2, 1, 0] rfl)
