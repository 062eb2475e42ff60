/-! The sixteen calls keep the relation -/
theorem cbT_0 {nb : Nat} {x y : Int32} (h : cbT nb x y = 0) : isCallS x = true ∧ isNumS y = true ∧ nb < 60 := by
  unfold cbT at h
  by_cases q1 : isCallS x = true
  · rw [if_pos q1] at h
    by_cases q2 : isNumS y = true
    · rw [if_pos q2] at h
      by_cases q3 : 60 ≤ nb
      · rw [if_pos (decide_eq_true q3)] at h; cases h
      · exact ⟨q1, q2, by omega⟩
    · rw [if_neg q2] at h; cases h
  · rw [if_neg q1] at h; cases h
theorem clT_0 {nb nl : Nat} {x y q : Int32} (h : clT nb nl x y q = 0) : inN nb x = true ∧ isWtS y = true ∧ ¬ q < 0 ∧ q ≤ 10000 ∧ nl < 200 := by
  unfold clT at h
  by_cases q1 : inN nb x = true
  · rw [if_pos q1] at h
    by_cases q2 : isWtS y = true
    · rw [if_pos q2] at h
      by_cases q3 : q < 0
      · rw [if_pos q3] at h; cases h
      · rw [if_neg q3] at h
        by_cases q4 : q ≤ 10000
        · rw [if_pos q4] at h
          by_cases q5 : 200 ≤ nl
          · rw [if_pos (decide_eq_true q5)] at h; cases h
          · exact ⟨q1, q2, q3, q4, by omega⟩
        · rw [if_neg q4] at h; cases h
    · rw [if_neg q2] at h; cases h
  · rw [if_neg q1] at h; cases h
theorem cxT_0 {nx : Nat} {x y q : Int32} (h : cxT nx x y q = 0) : isCallS x = true ∧ isNumS y = true ∧ isWtS q = true ∧ nx < 60 := by
  unfold cxT at h
  by_cases q1 : isCallS x = true
  · rw [if_pos q1] at h
    by_cases q2 : isNumS y = true
    · rw [if_pos q2] at h
      by_cases q4 : isWtS q = true
      · rw [if_pos q4] at h
        by_cases q3 : 60 ≤ nx
        · rw [if_pos (decide_eq_true q3)] at h; cases h
        · exact ⟨q1, q2, q4, by omega⟩
      · rw [if_neg q4] at h; cases h
    · rw [if_neg q2] at h; cases h
  · rw [if_neg q1] at h; cases h
theorem csT_0 {nb nl : Nat} {x y : Int32} (h : csT nb nl x y = 0) : inN nb x = true ∧ 1 ≤ y ∧ nb < 60 ∧ nl < 200 := by
  unfold csT at h
  by_cases q1 : inN nb x = true
  · rw [if_pos q1] at h
    by_cases q2 : 1 ≤ y
    · rw [if_pos q2] at h
      by_cases q3 : 60 ≤ nb
      · rw [if_pos (decide_eq_true q3)] at h; cases h
      · rw [if_neg (show ¬ decide (60 ≤ nb) = true by simpa using q3)] at h
        by_cases q4 : 200 ≤ nl
        · rw [if_pos (decide_eq_true q4)] at h; cases h
        · exact ⟨q1, q2, by omega, by omega⟩
    · rw [if_neg q2] at h; cases h
  · rw [if_neg q1] at h; cases h
theorem caT_0 {g : Nat → Nat → Int32} {nb nl : Nat} {x y q : Int32} (h : caT g nb nl x y q = 0) : inN nb x = true ∧ ¬ rowN g nl x y = -1 ∧ isWtS q = true := by
  unfold caT at h
  by_cases q1 : inN nb x = true
  · rw [if_pos q1] at h
    by_cases q2 : rowN g nl x y = -1
    · rw [if_pos q2] at h; cases h
    · rw [if_neg q2] at h
      by_cases q3 : isWtS q = true
      · exact ⟨q1, q2, q3⟩
      · rw [if_neg q3] at h; cases h
  · rw [if_neg q1] at h; cases h
theorem ctT_0 {nb : Nat} {x y q : Int32} (h : ctT nb x y q = 0) : inN nb x = true ∧ isHoS y = true ∧ isHoS q = true ∧ ¬ y = q := by
  unfold ctT at h
  by_cases q1 : inN nb x = true
  · rw [if_pos q1] at h
    by_cases q2 : isHoS y = true
    · rw [if_pos q2] at h
      by_cases q3 : isHoS q = true
      · rw [if_pos q3] at h
        by_cases q4 : y = q
        · rw [if_pos q4] at h; cases h
        · exact ⟨q1, q2, q3, q4⟩
      · rw [if_neg q3] at h; cases h
    · rw [if_neg q2] at h; cases h
  · rw [if_neg q1] at h; cases h
theorem coT_0 {nb nx : Nat} {x y q : Int32} (h : coT nb nx x y q = 0) : inN nb x = true ∧ inN nx y = true ∧ isHoS q = true := by
  unfold coT at h
  by_cases q1 : inN nb x = true
  · rw [if_pos q1] at h
    by_cases q2 : inN nx y = true
    · rw [if_pos q2] at h
      by_cases q3 : isHoS q = true
      · exact ⟨q1, q2, q3⟩
      · rw [if_neg q3] at h; cases h
    · rw [if_neg q2] at h; cases h
  · rw [if_neg q1] at h; cases h
theorem ckT_0 {x y : Int32} (h : ckT x y = 0) : isCallS x = true ∧ isNumS y = true := by
  unfold ckT at h
  by_cases q1 : isCallS x = true
  · rw [if_pos q1] at h
    by_cases q2 : isNumS y = true
    · exact ⟨q1, q2⟩
    · rw [if_neg q2] at h; cases h
  · rw [if_neg q1] at h; cases h
theorem ceT_0 {nx : Nat} {x y : Int32} (h : ceT nx x y = 0) : inN nx x = true ∧ ∃ k, k < 14 ∧ y = nI k := by
  unfold ceT at h
  by_cases q1 : inN nx x = true
  · rw [if_pos q1] at h
    by_cases q2 : y < 0
    · rw [if_pos q2] at h; cases h
    · rw [if_neg q2] at h
      by_cases q3 : y ≤ 13
      · obtain ⟨k, hk, rfl⟩ := nI_of q2
        exact ⟨q1, k, Nat.not_le.mp (fun z => absurd q3 (show ¬ nI k ≤ (13 : Int32) from nI_ge (a := 13) (by omega) hk)), rfl⟩
      · rw [if_neg q3] at h; cases h
  · rw [if_neg q1] at h; cases h
theorem ceT_1 {o : Nat → Bool} {nb nx : Nat} {x y : Int32} (h : ceT nx x y = 1) : seeT o nb nx x y = 1 := by
  unfold ceT at h
  unfold seeT
  by_cases q1 : inN nx x = true
  · rw [if_pos q1] at h ⊢
    unfold inS
    by_cases q2 : y < 0
    · rw [if_pos q2]; rfl
    · rw [if_neg q2] at h ⊢
      by_cases q3 : y ≤ 13
      · rw [if_pos q3] at h; cases h
      · rw [if_pos (Int32.not_le.mp q3)]; rfl
  · rw [if_neg q1]
theorem inS_out {y : Int32} {M : Nat} (hM : M < 2 ^ 31) (h : inS y 0 (nI M) = false) : y.toInt < 0 ∨ (M : Int) < y.toInt := by
  unfold inS at h
  by_cases q1 : y < 0
  · rw [Int32.lt_iff_toInt_lt] at q1
    exact Or.inl q1
  · rw [if_neg q1] at h
    by_cases q2 : nI M < y
    · rw [Int32.lt_iff_toInt_lt, nI_toInt hM] at q2
      exact Or.inr q2
    · rw [if_neg q2] at h; cases h
theorem sub10 : ∀ k, k < 10 → nI k - 10 < 0 := by decide +kernel
section AL
variable {l : Launch} {D : va_G} {ad an : Nat → Nat} {kd kn : Nat → ClassId} {g : Nat → Nat → Int32} {z : Nat → Int64} {v : Nat → Int32} {h : Nat → Nat → Int32} {o : Nat → Bool} {u : Nat → Int32}
theorem rets_ok {yL : MethodName} {cL : ByteArray} {mL : Nat} {hh : List (Nat × Nat × Nat × Nat)} {yK : MethodName} {cK : ByteArray} {mK : Nat} {avs : List Value} {r : Int32} {g' : Nat → Nat → Int32} {z' : Nat → Int64} {v' : Nat → Int32} {h' : Nat → Nat → Int32} {o' : Nat → Bool} {u' : Nat → Int32} {rL rK : Room}
    (hL : ∀ (oa : Nat) (ko : ClassId) (fo : Nat → Int64), WRi l yL (.codeWith yL cL mL (some .int) hh :: TB) rL (.ref (ad 0) :: (avs ++ [.ref oa])) D classes (wO oa ko fo ++ wA ad kd g z v) (wO oa ko (vp_updL fo 0 r.toInt64) ++ wA ad kd g' z' v') ([(ko, .long)] ++ tA kd) 0)
    (hK : WRi l yK (.code yK cK mK (some .int) :: TB) rK (.ref (an 0) :: avs) D classes (wK an kn h o u) (wK an kn h' o' u') (tK kn) r) (h0 : u' 0 = 0) (hR : RELA g' z' v' h' o' u') (ok1 : RmOk rL 0 0 mL) (ok2 : RmOk rK 0 0 mK) : RETS RELA l D ad an kd kn g z v h o u yL cL mL hh yK cK mK avs :=
  Or.inl ⟨r, g', z', v', h', o', u', rL, rK, ok1, ok2, hL, hK, h0, hR⟩
theorem rets_t {yL : MethodName} {cL : ByteArray} {mL : Nat} {hh : List (Nat × Nat × Nat × Nat)} {yK : MethodName} {cK : ByteArray} {mK : Nat} {avs : List Value} {k r : Int32} {rL rK : Room}
    (hL : ∀ oa : Nat, WT l yL (.codeWith yL cL mL (some .int) hh :: TB) rL (.ref (ad 0) :: (avs ++ [.ref oa])) D classes (wA ad kd g z v) (tA kd) xStr k)
    (hK : WRi l yK (.code yK cK mK (some .int) :: TB) rK (.ref (an 0) :: avs) D classes (wK an kn h o u) (wK an kn h o (upd u 0 k)) (tK kn) r) (h0 : ¬ k = 0) (hR : RELA g z v h o u) (ok1 : RmOk rL 1 6 mL) (ok2 : RmOk rK 0 0 mK) : RETS RELA l D ad an kd kn g z v h o u yL cL mL hh yK cK mK avs :=
  Or.inr ⟨k, r, rL, rK, ok1, ok2, hL, hK, h0, hR.elim fun nb q => q.elim fun nl q => q.elim fun nx q => ⟨nb, nl, nx, RN_u0 q k⟩⟩
theorem both_ok {yM : MethodName} {cM : ByteArray} {mM : Nat} {yK : MethodName} {cK : ByteArray} {mK : Nat} {ty : FieldType} {avs : List Value} {r : Int32} {g' : Nat → Nat → Int32} {z' : Nat → Int64} {v' : Nat → Int32} {h' : Nat → Nat → Int32} {o' : Nat → Bool} {u' : Nat → Int32} {rM rK : Room}
    (hM : WRi l yM (.code yM cM mM (some ty) :: TB) rM (.ref (ad 0) :: avs) D classes (wA ad kd g z v) (wA ad kd g' z' v') (tA kd) r)
    (hK : WRi l yK (.code yK cK mK (some ty) :: TB) rK (.ref (an 0) :: avs) D classes (wK an kn h o u) (wK an kn h' o' u') (tK kn) r) (hR : RELA g' z' v' h' o' u') (ok1 : RmOk rM 0 0 mM) (ok2 : RmOk rK 0 0 mK) : BOTH RELA l D ad an kd kn g z v h o u yM cM mM yK cK mK ty avs :=
  ⟨r, g', z', v', h', o', u', rM, rK, ok1, ok2, hM, hK, hR⟩
theorem all_on (RR : RELA g z v h o u) (x y : Int32) : BOTH RELA l D ad an kd kn g z v h o u y_M_on b_M_on 3 y_K_on b_K_on 3 .boolean [.int x, .int y] := by
  obtain ⟨nb, nl, nx, R⟩ := id RR
  have hM := c_M_on l D ad kd g z v nb R.2.1.1.1 R.1.1 nx R.2.1.2.2.1.1 R.1.2.2 x y
  rw [on_eq R] at hM
  exact both_ok hM (c_K_on l D an kn h o u nb R.2.1.1.2 R.1.1 nx R.2.1.2.2.1.2 R.1.2.2 x y) ⟨nb, nl, nx, on_st R x y⟩ ⟨rfl, rfl, Nat.le_of_ble_eq_true rfl, Nat.le_of_ble_eq_true rfl⟩ ⟨rfl, rfl, Nat.le_of_ble_eq_true rfl, Nat.le_of_ble_eq_true rfl⟩
theorem all_land (RR : RELA g z v h o u) (x y : Int32) : BOTH RELA l D ad an kd kn g z v h o u y_M_land b_M_land 3 y_K_land b_K_land 3 .boolean [.int x, .int y] := by
  obtain ⟨nb, nl, nx, R⟩ := id RR
  have hM := c_M_land l D ad kd g z v nx R.2.1.2.2.1.1 R.1.2.2 x y
  rw [land_eq R] at hM
  exact both_ok hM (c_K_land l D an kn h o u nx R.2.1.2.2.1.2 R.1.2.2 x y) ⟨nb, nl, nx, land_st R x y⟩ ⟨rfl, rfl, Nat.le_of_ble_eq_true rfl, Nat.le_of_ble_eq_true rfl⟩ ⟨rfl, rfl, Nat.le_of_ble_eq_true rfl, Nat.le_of_ble_eq_true rfl⟩
theorem all_arrive (RR : RELA g z v h o u) (x : Int32) : BOTH RELA l D ad an kd kn g z v h o u y_M_arrive b_M_arrive 2 y_K_arrive b_K_arrive 2 .boolean [.int x] := by
  obtain ⟨nb, nl, nx, R⟩ := id RR
  have hM := c_M_arrive l D ad kd g z v x
  rw [arrive_eq R] at hM
  exact both_ok hM (c_K_arrive l D an kn h o u x) ⟨nb, nl, nx, arrive_st R x⟩ ⟨rfl, rfl, Nat.le_of_ble_eq_true rfl, Nat.le_of_ble_eq_true rfl⟩ ⟨rfl, rfl, Nat.le_of_ble_eq_true rfl, Nat.le_of_ble_eq_true rfl⟩
theorem all_leg (RR : RELA g z v h o u) (x y : Int32) : BOTH RELA l D ad an kd kn g z v h o u y_M_leg b_M_leg 3 y_K_leg b_K_leg 3 .boolean [.int x, .int y] := by
  obtain ⟨nb, nl, nx, R⟩ := id RR
  obtain ⟨rk, hrk⟩ := R_rk R
  have hM := c_M_leg l D ad kd g z v nx R.2.1.2.2.1.1 R.1.2.2 x y
  rw [leg_eq R] at hM
  exact both_ok hM (c_K_leg l D an kn h o u nx R.2.1.2.2.1.2 R.1.2.2 rk hrk x y) ⟨nb, nl, nx, leg_st R x y⟩ ⟨rfl, rfl, Nat.le_of_ble_eq_true rfl, Nat.le_of_ble_eq_true rfl⟩ ⟨rfl, rfl, Nat.le_of_ble_eq_true rfl, Nat.le_of_ble_eq_true rfl⟩
theorem all_waits (RR : RELA g z v h o u) (x : Int32) : BOTH RELA l D ad an kd kn g z v h o u y_M_waits b_M_waits 4 y_K_waits b_K_waits 4 .int [.int x] := by
  obtain ⟨nb, nl, nx, R⟩ := id RR
  have hM := rd_wr (c_M_waits l D ad kd g z v nx R.2.1.2.2.1.1 R.1.2.2 x)
  rw [waits_eq R] at hM
  exact both_ok hM (c_K_waits l D an kn h o u nb R.2.1.1.2 R.1.1 nx R.2.1.2.2.1.2 R.1.2.2 x) ⟨nb, nl, nx, RN_u0 R 0⟩ ⟨rfl, rfl, Nat.le_of_ble_eq_true rfl, Nat.le_of_ble_eq_true rfl⟩ ⟨rfl, rfl, Nat.le_of_ble_eq_true rfl, Nat.le_of_ble_eq_true rfl⟩
theorem all_count (RR : RELA g z v h o u) (x : Int32) : BOTH RELA l D ad an kd kn g z v h o u y_M_count b_M_count 2 y_K_count b_K_count 5 .int [.int x] := by
  obtain ⟨nb, nl, nx, R⟩ := id RR
  by_cases q : inS x 0 8 = true
  · obtain ⟨k, hk, rfl⟩ := inS_ix (M := 8) (by decide) q
    have hM := rd_wr (c_M_count l D ad kd g z v nb R.2.1.1.1 R.1.1 nx R.2.1.2.2.1.1 R.1.2.2 nl R.2.1.2.1.1 R.1.2.1 k (by omega))
    rw [count_eq R k (by omega)] at hM
    exact both_ok hM (c_K_count l D an kn h o u nb R.2.1.1.2 R.1.1 nx R.2.1.2.2.1.2 R.1.2.2 nl R.2.1.2.1.2 R.1.2.1 (R_abv R) k (by omega)) ⟨nb, nl, nx, RN_u0 R 0⟩ ⟨rfl, rfl, Nat.le_of_ble_eq_true rfl, Nat.le_of_ble_eq_true rfl⟩ ⟨rfl, rfl, Nat.le_of_ble_eq_true rfl, Nat.le_of_ble_eq_true rfl⟩
  · have q2 : inS x 0 8 = false := by simpa using q
    have ho : x.toInt < 0 ∨ 8 < x.toInt := inS_out (M := 8) (by decide) q2
    exact both_ok (rd_wr (c_M_countN l D ad kd g z v nb R.2.1.1.1 R.1.1 nx R.2.1.2.2.1.1 R.1.2.2 nl R.2.1.2.1.1 R.1.2.1 x ho)) (c_K_countN l D an kn h o u nb R.2.1.1.2 R.1.1 nx R.2.1.2.2.1.2 R.1.2.2 nl R.2.1.2.1.2 R.1.2.1 (R_abv R) x ho) ⟨nb, nl, nx, RN_u0 R 0⟩ ⟨rfl, rfl, Nat.le_of_ble_eq_true rfl, Nat.le_of_ble_eq_true rfl⟩ ⟨rfl, rfl, Nat.le_of_ble_eq_true rfl, Nat.le_of_ble_eq_true rfl⟩
theorem all_bill (hlt9 : l.stackTraces = false) (RR : RELA g z v h o u) (x y q : Int32) : RETS RELA l D ad an kd kn g z v h o u y_L_bill b_L_bill 6 [(0, 12, 15, 13), (0, 12, 19, 15)] y_K_bill b_K_bill 4 [.int x, .int y, .int q] := by
  obtain ⟨nb, nl, nx, R⟩ := id RR
  rcases (cT3 nb nl nx x y q).1 with e | e | e
  · obtain ⟨q1, q2, hlt⟩ := cbT_0 e
    have p1 : inS x 0 3 = true := by rw [← isCall_eq]; exact q1
    have p2 : inS y 0 99999999 = true := q2
    obtain ⟨c, hc, rfl⟩ := inS_ix (M := 3) (by decide) p1
    obtain ⟨n, hn, rfl⟩ := inS_ix (M := 99999999) (by decide) p2
    have st := bill_st R hlt (c := c) (n := n) (by omega) (by omega) q
    rw [bill_eq R] at st
    have hL := fun oa ko fo => c_L_bill l D oa ko fo ad kd g z v nb R.2.1.1.1 R.1.1 hlt (nI c) (nI n) q q1 q2
    simp only [bill_eq R] at hL
    exact rets_ok hL (c_K_bill l D an kn h o u nb R.2.1.1.2 R.1.1 hlt (R_abv R) (nI c) (nI n) q p1 p2) (by split <;> first | rw [upd_n (by decide), upd_s] | rw [upd_s]) st ⟨rfl, rfl, Nat.le_of_ble_eq_true rfl, Nat.le_of_ble_eq_true rfl⟩ ⟨rfl, rfl, Nat.le_of_ble_eq_true rfl, Nat.le_of_ble_eq_true rfl⟩
  · exact rets_t (fun oa => c_L_bill_t1 l D oa ad kd g z v hlt9 nb R.2.1.1.1 R.1.1 x y q e) (c_K_bill_t l D an kn h o u nb R.2.1.1.2 R.1.1 x y q 1 (by rw [bilT_eq R.1.1, e]; rfl) (by decide)) (by decide) RR ⟨rfl, rfl, Nat.le_of_ble_eq_true rfl, Nat.le_of_ble_eq_true rfl⟩ ⟨rfl, rfl, Nat.le_of_ble_eq_true rfl, Nat.le_of_ble_eq_true rfl⟩
  · exact rets_t (fun oa => c_L_bill_t2 l D oa ad kd g z v hlt9 nb R.2.1.1.1 R.1.1 x y q e) (c_K_bill_t l D an kn h o u nb R.2.1.1.2 R.1.1 x y q 2 (by rw [bilT_eq R.1.1, e]; rfl) (by decide)) (by decide) RR ⟨rfl, rfl, Nat.le_of_ble_eq_true rfl, Nat.le_of_ble_eq_true rfl⟩ ⟨rfl, rfl, Nat.le_of_ble_eq_true rfl, Nat.le_of_ble_eq_true rfl⟩
theorem all_line (hlt9 : l.stackTraces = false) (RR : RELA g z v h o u) (x y q : Int32) : RETS RELA l D ad an kd kn g z v h o u y_L_line b_L_line 6 [(0, 12, 15, 13), (0, 12, 19, 15)] y_K_line b_K_line 4 [.int x, .int y, .int q] := by
  obtain ⟨nb, nl, nx, R⟩ := id RR
  rcases (cT3 nb nl nx x y q).2.1 with e | e | e
  · obtain ⟨q1, q2, q3, q4, hlt⟩ := clT_0 e
    have p2 : inS y 0 1000000 = true := q2
    have p3 : inS q 0 10000 = true := by unfold inS; rw [if_neg q3, if_neg (Int32.not_lt.mpr q4)]
    have hb6 := R.1.1
    obtain ⟨k, hk, rfl⟩ := inN_ix q1 (by omega)
    obtain ⟨w, hw, rfl⟩ := inS_ix (M := 1000000) (by decide) p2
    obtain ⟨st, ea⟩ := line_st R hlt hk hw q
    have hL := fun oa ko fo => c_L_line l D oa ko fo ad kd g z v nb R.2.1.1.1 R.1.1 nl R.2.1.2.1.1 R.1.2.1 hlt k hk (nI w) q q2 q3 q4
    rw [ea] at hL
    exact rets_ok hL (c_K_line l D an kn h o u nb R.2.1.1.2 R.1.1 nl R.2.1.2.1.2 R.1.2.1 hlt k hk (nI w) q p2 p3) (by rw [upd_n (by decide), upd_s]) st ⟨rfl, rfl, Nat.le_of_ble_eq_true rfl, Nat.le_of_ble_eq_true rfl⟩ ⟨rfl, rfl, Nat.le_of_ble_eq_true rfl, Nat.le_of_ble_eq_true rfl⟩
  · exact rets_t (fun oa => c_L_line_t1 l D oa ad kd g z v hlt9 nb R.2.1.1.1 R.1.1 nl R.2.1.2.1.1 R.1.2.1 x y q e) (c_K_line_t l D an kn h o u nb R.2.1.1.2 R.1.1 nl R.2.1.2.1.2 R.1.2.1 x y q 1 (by rw [linT_eq R.1.2.1, e]; rfl) (by decide)) (by decide) RR ⟨rfl, rfl, Nat.le_of_ble_eq_true rfl, Nat.le_of_ble_eq_true rfl⟩ ⟨rfl, rfl, Nat.le_of_ble_eq_true rfl, Nat.le_of_ble_eq_true rfl⟩
  · exact rets_t (fun oa => c_L_line_t2 l D oa ad kd g z v hlt9 nb R.2.1.1.1 R.1.1 nl R.2.1.2.1.1 R.1.2.1 x y q e) (c_K_line_t l D an kn h o u nb R.2.1.1.2 R.1.1 nl R.2.1.2.1.2 R.1.2.1 x y q 2 (by rw [linT_eq R.1.2.1, e]; rfl) (by decide)) (by decide) RR ⟨rfl, rfl, Nat.le_of_ble_eq_true rfl, Nat.le_of_ble_eq_true rfl⟩ ⟨rfl, rfl, Nat.le_of_ble_eq_true rfl, Nat.le_of_ble_eq_true rfl⟩
theorem all_box (hlt9 : l.stackTraces = false) (RR : RELA g z v h o u) (x y q : Int32) : RETS RELA l D ad an kd kn g z v h o u y_L_box b_L_box 6 [(0, 12, 15, 13), (0, 12, 19, 15)] y_K_box b_K_box 5 [.int x, .int y, .int q] := by
  obtain ⟨nb, nl, nx, R⟩ := id RR
  rcases (cT3 nb nl nx x y q).2.2.1 with e | e | e
  · obtain ⟨q1, q2, q3, hlt⟩ := cxT_0 e
    have p1 : inS x 0 3 = true := by rw [← isCall_eq]; exact q1
    have st := box_st R hlt x y q
    rw [box_eq R] at st
    have hL := fun oa ko fo => c_L_box l D oa ko fo ad kd g z v nx R.2.1.2.2.1.1 R.1.2.2 hlt x y q q1 q2 q3
    simp only [box_eq R] at hL
    exact rets_ok hL (c_K_box l D an kn h o u nx R.2.1.2.2.1.2 R.1.2.2 hlt x y q p1 q2 q3) (by split <;> first | rw [upd_n (by decide), upd_s] | rw [upd_s]) st ⟨rfl, rfl, Nat.le_of_ble_eq_true rfl, Nat.le_of_ble_eq_true rfl⟩ ⟨rfl, rfl, Nat.le_of_ble_eq_true rfl, Nat.le_of_ble_eq_true rfl⟩
  · exact rets_t (fun oa => c_L_box_t1 l D oa ad kd g z v hlt9 nx R.2.1.2.2.1.1 R.1.2.2 x y q e) (c_K_box_t l D an kn h o u nx R.2.1.2.2.1.2 R.1.2.2 x y q 1 (by rw [boxT_eq R.1.2.2, e]; rfl) (by decide)) (by decide) RR ⟨rfl, rfl, Nat.le_of_ble_eq_true rfl, Nat.le_of_ble_eq_true rfl⟩ ⟨rfl, rfl, Nat.le_of_ble_eq_true rfl, Nat.le_of_ble_eq_true rfl⟩
  · exact rets_t (fun oa => c_L_box_t2 l D oa ad kd g z v hlt9 nx R.2.1.2.2.1.1 R.1.2.2 x y q e) (c_K_box_t l D an kn h o u nx R.2.1.2.2.1.2 R.1.2.2 x y q 2 (by rw [boxT_eq R.1.2.2, e]; rfl) (by decide)) (by decide) RR ⟨rfl, rfl, Nat.le_of_ble_eq_true rfl, Nat.le_of_ble_eq_true rfl⟩ ⟨rfl, rfl, Nat.le_of_ble_eq_true rfl, Nat.le_of_ble_eq_true rfl⟩
theorem all_amend (hlt9 : l.stackTraces = false) (RR : RELA g z v h o u) (x y q : Int32) : RETS RELA l D ad an kd kn g z v h o u y_L_amend b_L_amend 6 [(0, 12, 15, 13)] y_K_amend b_K_amend 7 [.int x, .int y, .int q] := by
  obtain ⟨nb, nl, nx, R⟩ := id RR
  rcases (cT2 g nb nl nx x y q).1 with e | e
  · obtain ⟨q1, q2, q3⟩ := caT_0 e
    have p3 : inS q 0 1000000 = true := q3
    have hb6 := R.1.1
    obtain ⟨k, hk, rfl⟩ := inN_ix q1 (by omega)
    obtain ⟨w, hw, rfl⟩ := inS_ix (M := 1000000) (by decide) p3
    obtain ⟨i, hi, a1, a2, a3⟩ := pickN_some q2
    have hgi : g 10 i = nI k := of_decide_eq_true a1
    have h10 : ∀ i, i < nl → g 10 i = h 6 i := fun i hi => by
      obtain ⟨cap, L1, -⟩ := R.2.2.2.1
      exact (L1.1 i hi).1
    have hhi : h 6 i = nI k := by rw [← h10 i hi]; exact hgi
    have ec : cntN (fun z => decide (g 10 z = nI k)) i = cntN (fun z => decide (h 6 z = nI k)) i := cntN_congr (fun j hj => by rw [h10 j (by omega)])
    subst a2
    have hL := fun oa ko fo => c_L_amend l D oa ko fo ad kd g z v nb R.2.1.1.1 R.1.1 nl R.2.1.2.1.1 R.1.2.1 k hk (nI (cntN (fun z => decide (g 10 z = nI k)) i)) (nI w) q3 i hi a3 hgi
    rw [amd_eq R hk hi hw] at hL
    have hK := c_K_amend l D an kn h o u nb R.2.1.1.2 R.1.1 nl R.2.1.2.1.2 R.1.2.1 k hk i _ hi hhi ec.symm (nI w) p3
    exact rets_ok hL hK (by rw [upd_n (by decide), upd_s]) (amd_st R hk hi hhi hw) ⟨rfl, rfl, Nat.le_of_ble_eq_true rfl, Nat.le_of_ble_eq_true rfl⟩ ⟨rfl, rfl, Nat.le_of_ble_eq_true rfl, Nat.le_of_ble_eq_true rfl⟩
  · exact rets_t (fun oa => c_L_amend_t1 l D oa ad kd g z v hlt9 nb R.2.1.1.1 R.1.1 nl R.2.1.2.1.1 R.1.2.1 x y q e) (c_K_amend_t l D an kn h o u nb R.2.1.1.2 R.1.1 nl R.2.1.2.1.2 R.1.2.1 x y q 1 (by rw [amdT_eq R, e]; rfl) (by decide)) (by decide) RR ⟨rfl, rfl, Nat.le_of_ble_eq_true rfl, Nat.le_of_ble_eq_true rfl⟩ ⟨rfl, rfl, Nat.le_of_ble_eq_true rfl, Nat.le_of_ble_eq_true rfl⟩
theorem all_title (hlt9 : l.stackTraces = false) (RR : RELA g z v h o u) (x y q : Int32) : RETS RELA l D ad an kd kn g z v h o u y_L_title b_L_title 6 [(0, 12, 15, 13)] y_K_title b_K_title 4 [.int x, .int y, .int q] := by
  obtain ⟨nb, nl, nx, R⟩ := id RR
  rcases (cT2 g nb nl nx x y q).2.1 with e | e
  · obtain ⟨q1, q2, q3, q4⟩ := ctT_0 e
    have p2 : inS y 0 9 = true := by rw [← isHo_eq]; exact q2
    have p3 : inS q 0 9 = true := by rw [← isHo_eq]; exact q3
    have hb6 := R.1.1
    obtain ⟨k, hk, rfl⟩ := inN_ix q1 (by omega)
    have st := tit_st R hk y q
    rw [tit_eq R hk] at st
    have hL := fun oa ko fo => c_L_title l D oa ko fo ad kd g z v nb R.2.1.1.1 R.1.1 k hk y q q2 q3 q4
    simp only [tit_eq R hk] at hL
    exact rets_ok hL (c_K_title l D an kn h o u nb R.2.1.1.2 R.1.1 k hk y q p2 p3 q4) (by rw [upd_s]) st ⟨rfl, rfl, Nat.le_of_ble_eq_true rfl, Nat.le_of_ble_eq_true rfl⟩ ⟨rfl, rfl, Nat.le_of_ble_eq_true rfl, Nat.le_of_ble_eq_true rfl⟩
  · exact rets_t (fun oa => c_L_title_t1 l D oa ad kd g z v hlt9 nb R.2.1.1.1 R.1.1 x y q e) (c_K_title_t l D an kn h o u nb R.2.1.1.2 R.1.1 x y q 1 (by rw [titT_eq, e]; rfl) (by decide)) (by decide) RR ⟨rfl, rfl, Nat.le_of_ble_eq_true rfl, Nat.le_of_ble_eq_true rfl⟩ ⟨rfl, rfl, Nat.le_of_ble_eq_true rfl, Nat.le_of_ble_eq_true rfl⟩
theorem all_order (hlt9 : l.stackTraces = false) (RR : RELA g z v h o u) (x y q : Int32) : RETS RELA l D ad an kd kn g z v h o u y_L_order b_L_order 6 [(0, 12, 15, 13)] y_K_order b_K_order 4 [.int x, .int y, .int q] := by
  obtain ⟨nb, nl, nx, R⟩ := id RR
  rcases (cT2 g nb nl nx x y q).2.2.1 with e | e
  · obtain ⟨q1, q2, q3⟩ := coT_0 e
    have p3 : inS q 0 9 = true := by rw [← isHo_eq]; exact q3
    have hb6 := R.1.1
    have hx6 := R.1.2.2
    obtain ⟨k, hk, rfl⟩ := inN_ix q1 (by omega)
    obtain ⟨j, hj, rfl⟩ := inN_ix q2 (by omega)
    have st := ord_st R hk hj q
    rw [ord_eq R hk hj] at st
    have hL := fun oa ko fo => c_L_order l D oa ko fo ad kd g z v nb R.2.1.1.1 R.1.1 nx R.2.1.2.2.1.1 R.1.2.2 k hk j hj q q3
    simp only [ord_eq R hk hj] at hL
    exact rets_ok hL (c_K_order l D an kn h o u nb R.2.1.1.2 R.1.1 nx R.2.1.2.2.1.2 R.1.2.2 k hk j hj q p3) (by split <;> first | rw [upd_n (by decide), upd_s] | rw [upd_s]) st ⟨rfl, rfl, Nat.le_of_ble_eq_true rfl, Nat.le_of_ble_eq_true rfl⟩ ⟨rfl, rfl, Nat.le_of_ble_eq_true rfl, Nat.le_of_ble_eq_true rfl⟩
  · exact rets_t (fun oa => c_L_order_t1 l D oa ad kd g z v hlt9 nb R.2.1.1.1 R.1.1 nx R.2.1.2.2.1.1 R.1.2.2 x y q e) (c_K_order_t l D an kn h o u nb R.2.1.1.2 R.1.1 nx R.2.1.2.2.1.2 R.1.2.2 x y q 1 (by rw [ordT_eq, e]; rfl) (by decide)) (by decide) RR ⟨rfl, rfl, Nat.le_of_ble_eq_true rfl, Nat.le_of_ble_eq_true rfl⟩ ⟨rfl, rfl, Nat.le_of_ble_eq_true rfl, Nat.le_of_ble_eq_true rfl⟩
theorem all_split (hlt9 : l.stackTraces = false) (RR : RELA g z v h o u) (x y : Int32) : RETS RELA l D ad an kd kn g z v h o u y_L_split b_L_split 5 [(0, 10, 13, 13), (0, 10, 17, 15)] y_K_split b_K_split 8 [.int x, .int y] := by
  obtain ⟨nb, nl, nx, R⟩ := id RR
  rcases (cT3 nb nl nx x y 0).2.2.2 with e | e | e
  · obtain ⟨q1, q2, hlt, hlt2⟩ := csT_0 e
    have hb6 := R.1.1
    obtain ⟨k, hk, rfl⟩ := inN_ix q1 (by omega)
    obtain ⟨n9, hn9, e9⟩ := R_num2 R k hk
    obtain ⟨s9, a1, a2, a3, a4, a5⟩ := spl_num R hk hlt e9 hn9
    have st := spl_st R hlt hlt2 hk a2 y q2 a5
    rw [spl_eq R hk a2 y a5] at st
    have hL := fun oa ko fo => c_L_split l D oa ko fo ad kd g z v nb R.2.1.1.1 R.1.1 nl R.2.1.2.1.1 R.1.2.1 hlt hlt2 k hk y q2
    simp only [spl_eq R hk a2 y a5] at hL
    exact rets_ok hL (c_K_split l D an kn h o u nb R.2.1.1.2 R.1.1 nl R.2.1.2.1.2 R.1.2.1 hlt hlt2 k hk y q2 n9 s9 e9 a1 a2 a3 a4) (by split <;> first | rw [upd_n (by decide), upd_n (by decide), upd_s] | rw [upd_s]) st ⟨rfl, rfl, Nat.le_of_ble_eq_true rfl, Nat.le_of_ble_eq_true rfl⟩ ⟨rfl, rfl, Nat.le_of_ble_eq_true rfl, Nat.le_of_ble_eq_true rfl⟩
  · exact rets_t (fun oa => c_L_split_t1 l D oa ad kd g z v hlt9 nb R.2.1.1.1 R.1.1 nl R.2.1.2.1.1 R.1.2.1 x y e) (c_K_split_t l D an kn h o u nb R.2.1.1.2 R.1.1 nl R.2.1.2.1.2 R.1.2.1 x y 1 (by rw [splT_eq R.1.1 R.1.2.1, e]; rfl) (by decide)) (by decide) RR ⟨rfl, rfl, Nat.le_of_ble_eq_true rfl, Nat.le_of_ble_eq_true rfl⟩ ⟨rfl, rfl, Nat.le_of_ble_eq_true rfl, Nat.le_of_ble_eq_true rfl⟩
  · exact rets_t (fun oa => c_L_split_t2 l D oa ad kd g z v hlt9 nb R.2.1.1.1 R.1.1 nl R.2.1.2.1.1 R.1.2.1 x y e) (c_K_split_t l D an kn h o u nb R.2.1.1.2 R.1.1 nl R.2.1.2.1.2 R.1.2.1 x y 2 (by rw [splT_eq R.1.1 R.1.2.1, e]; rfl) (by decide)) (by decide) RR ⟨rfl, rfl, Nat.le_of_ble_eq_true rfl, Nat.le_of_ble_eq_true rfl⟩ ⟨rfl, rfl, Nat.le_of_ble_eq_true rfl, Nat.le_of_ble_eq_true rfl⟩
theorem all_look (hlt9 : l.stackTraces = false) (RR : RELA g z v h o u) (x y : Int32) : RETS RELA l D ad an kd kn g z v h o u y_L_look b_L_look 5 [(0, 10, 13, 39)] y_K_look b_K_look 4 [.int x, .int y] := by
  obtain ⟨nb, nl, nx, R⟩ := id RR
  by_cases q1 : inN nb x = true
  · by_cases q2 : inS y 0 15 = true
    · have hb6 := R.1.1
      obtain ⟨j, hj, rfl⟩ := inN_ix q1 (by omega)
      obtain ⟨k, hk, rfl⟩ := inS_ix (M := 15) (by decide) q2
      have hL := fun oa ko fo => c_L_look l D oa ko fo ad kd g z v nb R.2.1.1.1 R.1.1 nx R.2.1.2.2.1.1 R.1.2.2 j hj k (by omega)
      simp only [loo_eq R hj k (by omega)] at hL
      exact rets_ok hL (c_K_look l D an kn h o u nb R.2.1.1.2 R.1.1 nx R.2.1.2.2.1.2 R.1.2.2 nl R.2.1.2.1.2 R.1.2.1 (R_abv R) j hj k (by omega)) (by rw [upd_s]) ⟨nb, nl, nx, RN_u0 R 0⟩ ⟨rfl, rfl, Nat.le_of_ble_eq_true rfl, Nat.le_of_ble_eq_true rfl⟩ ⟨rfl, rfl, Nat.le_of_ble_eq_true rfl, Nat.le_of_ble_eq_true rfl⟩
    · have q3 : inS y 0 15 = false := by simpa using q2
      exact rets_t (fun oa => c_L_look_t2 l D oa ad kd g z v hlt9 nb R.2.1.1.1 R.1.1 x y (inS_out (M := 15) (by decide) q3) q1) (c_K_look_t l D an kn h o u nb R.2.1.1.2 R.1.1 x y 1 (by unfold looT; rw [if_pos q1, if_neg q2]) (by decide)) (by decide) RR ⟨rfl, rfl, Nat.le_of_ble_eq_true rfl, Nat.le_of_ble_eq_true rfl⟩ ⟨rfl, rfl, Nat.le_of_ble_eq_true rfl, Nat.le_of_ble_eq_true rfl⟩
  · have q3 : inN nb x = false := by simpa using q1
    exact rets_t (fun oa => c_L_look_t1 l D oa ad kd g z v hlt9 nb R.2.1.1.1 R.1.1 x y q3) (c_K_look_t l D an kn h o u nb R.2.1.1.2 R.1.1 x y 1 (by unfold looT; rw [if_neg q1]) (by decide)) (by decide) RR ⟨rfl, rfl, Nat.le_of_ble_eq_true rfl, Nat.le_of_ble_eq_true rfl⟩ ⟨rfl, rfl, Nat.le_of_ble_eq_true rfl, Nat.le_of_ble_eq_true rfl⟩
theorem all_seen (hlt9 : l.stackTraces = false) (RR : RELA g z v h o u) (x y : Int32) : RETS RELA l D ad an kd kn g z v h o u y_L_seen b_L_seen 5 [(0, 10, 13, 39), (0, 10, 17, 44)] y_K_seen b_K_seen 6 [.int x, .int y] := by
  obtain ⟨nb, nl, nx, R⟩ := id RR
  obtain ⟨rk, hrk⟩ := R_rk R
  rcases (cT2 g nb nl nx x y 0).2.2.2.2 with e | e
  · obtain ⟨q1, k, hk, rfl⟩ := ceT_0 e
    have hx6 := R.1.2.2
    have hb6 := R.1.1
    obtain ⟨j, hj, rfl⟩ := inN_ix q1 (by omega)
    have hbl := bofR_le o nb j
    rcases Nat.lt_or_ge k 10 with hk9 | hk9
    · have hL := fun oa ko fo => c_L_seen l D oa ko fo ad kd g z v nb R.2.1.1.1 R.1.1 nx R.2.1.2.2.1.1 R.1.2.2 j hj k hk (fun n en => absurd en (by omega))
      simp only [see_eq R hj k hk9] at hL
      exact rets_ok hL (c_K_seen l D an kn h o u nb R.2.1.1.2 R.1.1 nx R.2.1.2.2.1.2 R.1.2.2 rk hrk j hj k hk9 (Int32.lt_of_lt_of_le (sub10 k hk9) (nI_pos' (by omega)))) (by rw [upd_s]) ⟨nb, nl, nx, RN_u0 R 0⟩ ⟨rfl, rfl, Nat.le_of_ble_eq_true rfl, Nat.le_of_ble_eq_true rfl⟩ ⟨rfl, rfl, Nat.le_of_ble_eq_true rfl, Nat.le_of_ble_eq_true rfl⟩
    · obtain ⟨n, rfl⟩ : ∃ n, k = n + 10 := ⟨k - 10, by omega⟩
      rcases Nat.lt_or_ge n (bofR o nb j) with hn | hn
      · obtain ⟨q, a1, a2, a3, a4⟩ := see_hit R hj hn
        have hL := fun oa ko fo => c_L_seen l D oa ko fo ad kd g z v nb R.2.1.1.1 R.1.1 nx R.2.1.2.2.1.1 R.1.2.2 j hj (n + 10) hk (fun n' en => by
          have : n' = n := by omega
          subst this
          rw [a4]; exact nI_nm1 (by omega))
        have es : seeS g z nx j (n + 10) = nI q := a4
        simp only [es] at hL
        exact rets_ok hL (c_K_seenB l D an kn h o u nb R.2.1.1.2 R.1.1 nx R.2.1.2.2.1.2 R.1.2.2 rk hrk j hj q n (by omega) a1 a2 a3) (by rw [upd_s]) ⟨nb, nl, nx, RN_u0 R 0⟩ ⟨rfl, rfl, Nat.le_of_ble_eq_true rfl, Nat.le_of_ble_eq_true rfl⟩ ⟨rfl, rfl, Nat.le_of_ble_eq_true rfl, Nat.le_of_ble_eq_true rfl⟩
      · refine rets_t (fun oa => c_L_seen_t2 l D oa ad kd g z v hlt9 nb R.2.1.1.1 R.1.1 nx R.2.1.2.2.1.1 R.1.2.2 j hj (n + 10) hk9 hk (fun n' en => by
          have : n' = n := by omega
          subst this
          exact see_miss R hj hn (by omega))) (c_K_seen_t l D an kn h o u nb R.2.1.1.2 R.1.1 nx R.2.1.2.2.1.2 R.1.2.2 (nI j) (nI (n + 10)) 2 ?_ (by decide)) (by decide) RR ⟨rfl, rfl, Nat.le_of_ble_eq_true rfl, Nat.le_of_ble_eq_true rfl⟩ ⟨rfl, rfl, Nat.le_of_ble_eq_true rfl, Nat.le_of_ble_eq_true rfl⟩
        unfold seeT
        rw [if_pos q1, if_pos (show inS (nI (n + 10)) 0 13 = true from inS_nI (b := 13) (by omega)), ix_nI (by omega)]
        rw [if_neg (show ¬ nI (n + 10) - 10 < nI (bofR o nb j) from fun zz => by
          have e1 : nI (n + 10) - 10 = nI n := by
            have := nI_sub (a := n + 10) (b := 10) (by omega)
            rw [Nat.add_sub_cancel] at this
            exact this
          rw [e1] at zz
          exact nI_nlt hn (by omega) zz)]
  · exact rets_t (fun oa => c_L_seen_t1 l D oa ad kd g z v hlt9 nb R.2.1.1.1 R.1.1 nx R.2.1.2.2.1.1 R.1.2.2 x y e) (c_K_seen_t l D an kn h o u nb R.2.1.1.2 R.1.1 nx R.2.1.2.2.1.2 R.1.2.2 x y 1 (ceT_1 e) (by decide)) (by decide) RR ⟨rfl, rfl, Nat.le_of_ble_eq_true rfl, Nat.le_of_ble_eq_true rfl⟩ ⟨rfl, rfl, Nat.le_of_ble_eq_true rfl, Nat.le_of_ble_eq_true rfl⟩
theorem all_like (hlt9 : l.stackTraces = false) (RR : RELA g z v h o u) (x y q : Int32) : RETS RELA l D ad an kd kn g z v h o u y_L_like b_L_like 6 [(0, 12, 15, 13)] y_K_like b_K_like 7 [.int x, .int y, .int q] := by
  obtain ⟨nb, nl, nx, R⟩ := id RR
  rcases (cT2 g nb nl nx x y q).2.2.2.1 with e | e
  · obtain ⟨q1, q2⟩ := ckT_0 e
    have p1 : inS x 0 3 = true := by rw [← isCall_eq]; exact q1
    have p2 : inS y 0 99999999 = true := q2
    obtain ⟨n0, hn0, rfl⟩ := inS_ix (M := 99999999) (by decide) p2
    have hL := fun oa ko fo => c_L_like l D oa ko fo ad kd g z v nb R.2.1.1.1 R.1.1 (R_num3 R) x n0 q q1 (by omega)
    simp only [lik_eq R (n0 := n0) (by omega)] at hL
    exact rets_ok hL (c_K_like l D an kn h o u nb R.2.1.1.2 R.1.1 (R_num2 R) x n0 q p1 (by omega)) (by rw [upd_s]) ⟨nb, nl, nx, RN_u0 R 0⟩ ⟨rfl, rfl, Nat.le_of_ble_eq_true rfl, Nat.le_of_ble_eq_true rfl⟩ ⟨rfl, rfl, Nat.le_of_ble_eq_true rfl, Nat.le_of_ble_eq_true rfl⟩
  · exact rets_t (fun oa => c_L_like_t1 l D oa ad kd g z v hlt9 x y q e) (c_K_like_t l D an kn h o u nb R.2.1.1.2 R.1.1 x y q 1 (by rw [likT_eq, e]; rfl) (by decide)) (by decide) RR ⟨rfl, rfl, Nat.le_of_ble_eq_true rfl, Nat.le_of_ble_eq_true rfl⟩ ⟨rfl, rfl, Nat.le_of_ble_eq_true rfl, Nat.le_of_ble_eq_true rfl⟩
end AL
theorem all_16 {l : Launch} (hlt9 : l.stackTraces = false) : ALL16 RELA l := fun D ad an kd kn g z v h o u RR x y q =>
  ⟨all_bill hlt9 RR x y q, all_line hlt9 RR x y q, all_box hlt9 RR x y q, all_on RR x y, all_land RR x y, all_arrive RR x, all_amend hlt9 RR x y q, all_title hlt9 RR x y q, all_order hlt9 RR x y q, all_split hlt9 RR x y, all_leg RR x y, all_look hlt9 RR x y, all_seen hlt9 RR x y, all_waits RR x, all_like hlt9 RR x y q, all_count RR x⟩
