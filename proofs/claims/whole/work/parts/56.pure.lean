/-! Pure: bills, lines, boxes come; amend, title, order -/
theorem num_tak {h : Nat → Nat → Int32} {nb : Nat} (hb : nb ≤ 60) (x y : Int32) : (0 ≤ numR h nb x y) = (anyN (fun k => decide (h 1 k = x) && decide (h 2 k = y)) nb = true) := lasN_neg (by omega)
theorem neg_nle {d : Nat} (h0 : 0 < d) (hd : d < 2 ^ 31) : ¬ (0 : Int32) ≤ -(nI d) := by
  rw [Int32.not_le, Int32.lt_iff_toInt_lt]
  rw [Int32.toInt_neg, nI_toInt (by omega)]
  have e : (-((d : Nat) : Int)).bmod (2 ^ 32) = -((d : Nat) : Int) := by
    apply Int.bmod_eq_of_le <;> omega
  rw [e]
  show -((d : Nat) : Int) < 0
  omega
section EQ2
variable {g : Nat → Nat → Int32} {z : Nat → Int64} {v : Nat → Int32} {h : Nat → Nat → Int32} {o : Nat → Bool} {u : Nat → Int32} {nb nl nx : Nat}
theorem tak_eq (R : RN g z v h o u nb nl nx) (x y : Int32) : takB g nb x y = anyN (fun k => decide (h 1 k = x) && decide (h 2 k = y)) nb := by
  obtain ⟨-, -, B, -⟩ := R
  exact anyN_congr (fun i hi => by rw [(B.1 i hi).1.1, (B.1 i hi).1.2.1])
theorem ordB_eq (R : RN g z v h o u nb nl nx) {k : Nat} (hk : k < nb) : ordB g k = (if h 5 k ≤ 0 then false else true) := by
  obtain ⟨-, -, B, -⟩ := R
  unfold ordB
  rw [(B.1 k hk).1.2.2.2.2]
theorem bill_eq (R : RN g z v h o u nb nl nx) (x y a : Int32) : bilR g nb x y a = bilK h nb x y a := by
  have ht := tak_eq R x y
  have ho := fun {k : Nat} (hk : k < nb) => ordB_eq R hk
  obtain ⟨⟨hb, hl, hx⟩, -, B, -⟩ := R
  unfold bilR bilK msu
  rw [ht]
  simp only [num_tak hb]
  by_cases q0 : anyN (fun k => decide (h 1 k = x) && decide (h 2 k = y)) nb = true
  · rw [if_pos q0, if_pos q0]
    exact ite_self _
  · rw [if_neg q0, if_neg q0]
    by_cases q1 : a = -1
    · rw [if_pos q1, if_pos q1]; rfl
    · rw [if_neg q1, if_neg q1]
      by_cases q2 : inN nb a = true
      · obtain ⟨k, hk, rfl⟩ := inN_ix q2 (by omega)
        rw [if_pos q2, if_pos q2, ix_nI (by omega), (B.1 k hk).1.1, (B.1 k hk).2.1.1, ho hk]
        have hd := (B.1 k hk).2.1.2.2
        by_cases q3 : h 1 k = x
        · rw [if_pos q3, if_pos q3]
          by_cases q4 : depF (h 3) 60 k = 4
          · rw [if_pos q4, if_pos (show (4 : Int32) ≤ nI (depF (h 3) 60 k) by rw [q4]; decide)]; rfl
          · rw [if_neg q4, if_neg (show ¬ (4 : Int32) ≤ nI (depF (h 3) 60 k) from nI_ge (a := depF (h 3) 60 k) (b := 4) (by omega) (by decide))]
            by_cases q5 : h 5 k ≤ 0
            · rw [if_pos q5, if_pos q5]; rfl
            · rw [if_neg q5, if_neg q5]; rfl
        · rw [if_neg q3, if_neg q3]; rfl
      · rw [if_neg q2, if_neg q2]; rfl
theorem bill_st (R : RN g z v h o u nb nl nx) (hlt : nb < 60) {c n : Nat} (hc : c < 4) (hn : n < 100000000) (a : Int32) : RELA (if bilR g nb (nI c) (nI n) a = true then addB g nb (nI c) (nI n) a 0 else g) z (if bilR g nb (nI c) (nI n) a = true then upd v 2 (nI nb + 1) else v) (if bilK h nb (nI c) (nI n) a = true then makR h nb (nI c) (nI n) a else h) o (if bilK h nb (nI c) (nI n) a = true then upd (upd u 0 0) 1 (nI nb + 1) else upd u 0 0) := by
  have e := bill_eq R (nI c) (nI n) a
  rw [e]
  by_cases q : bilK h nb (nI c) (nI n) a = true
  · simp only [if_pos q]
    have R0 := RN_u0 R 0
    obtain ⟨⟨hb, hl, hx⟩, ⟨b1, b2, b3, b4, b5, b6⟩, B, L, X, U⟩ := R0
    have ha : a = -1 ∨ ∃ j, j < nb ∧ a = nI j ∧ depF (h 3) 60 j ≤ 3 := by
      unfold bilK at q
      by_cases q0 : 0 ≤ numR h nb (nI c) (nI n)
      · rw [if_pos q0] at q; cases q
      · rw [if_neg q0] at q
        by_cases q1 : a = -1
        · exact Or.inl q1
        · rw [if_neg q1] at q
          by_cases q2 : inN nb a = true
          · obtain ⟨k, hk, rfl⟩ := inN_ix q2 (by omega)
            rw [if_pos q2, ix_nI (by omega)] at q
            have hd := (B.1 k hk).2.1.2.2
            by_cases q3 : h 1 k = nI c
            · rw [if_pos q3] at q
              by_cases q4 : depF (h 3) 60 k = 4
              · rw [if_pos q4] at q; cases q
              · exact Or.inr ⟨k, hk, rfl, by omega⟩
            · rw [if_neg q3] at q; cases q
          · rw [if_neg q2] at q; cases q
    have hB := RB_add (a4 := 0) hlt B hc hn ha
    have e4 : makR h nb (nI c) (nI n) a 4 nb = 0 := by
      have := (B.2.1 nb (Nat.le_refl _)).1
      simp [makR, up_app, this]
    have e5 : up (makR h nb (nI c) (nI n) a) 4 nb 0 = makR h nb (nI c) (nI n) a := (congrArg (up (makR h nb (nI c) (nI n) a) 4 nb) e4.symm).trans (up_self _ 4 nb)
    rw [e5] at hB
    have ga : ∀ j, 9 ≤ j → addB g nb (nI c) (nI n) a 0 j = g j := fun j hj => by
      unfold addB
      rw [up_o (by omega), up_o (by omega), up_o (by omega), up_o (by omega), up_o (by omega), up_o (by omega), up_o (by omega)]
    have ha2 : ∀ j, 6 ≤ j → makR h nb (nI c) (nI n) a j = h j := fun j hj => by
      unfold makR
      rw [up_o (by omega), up_o (by omega), up_o (by omega)]
    refine ⟨nb + 1, nl, nx, ⟨hlt, hl, hx⟩, ⟨?_, ?_, ?_, ?_, ?_, ?_⟩, hB, RL_nb (Nat.le_succ nb) (RL_of (fun j h1 h2 => ga j (by omega)) (fun j h1 h2 => ha2 j h1) L), RX_nb hx (Nat.le_succ nb) hlt (RX_of (fun j h1 => ga j (by omega)) (fun j h1 => ha2 j (by omega)) X), ?_⟩
    · rw [upd_s, upd_s]; exact ⟨nI_1 nb, nI_1 nb⟩
    · rw [upd_n (by decide), upd_n (by decide)]; exact b2
    · rw [upd_n (by decide), upd_n (by decide)]; exact b3
    · rw [upd_n (by decide), upd_n (by decide)]; exact b4
    · rw [upd_n (by decide), upd_n (by decide)]; exact b5
    · rw [upd_n (by decide)]; exact b6
    · rw [upd_n (by decide), ordX_eq (g := g) (ga 21 (by decide))]; exact U
  · simp only [if_neg q]
    exact ⟨nb, nl, nx, RN_u0 R 0⟩
theorem line_st (R : RN g z v h o u nb nl nx) (hlt : nl < 200) {k w : Nat} (hk : k < nb) (hw : w ≤ 1000000) (q : Int32) : RELA (addN g nl k (nI w) q) z (upd v 3 (nI nl + 1)) (adlR h nl (nI k) (nI w) q) o (upd (upd u 0 0) 3 (nI nl + 1)) ∧ g 12 k = nI (lofR (adlR h nl (nI k) (nI w) q) (nl + 1) (nI k)) - 1 := by
  have R0 := RN_u0 R 0
  obtain ⟨⟨hb, hl, hx⟩, ⟨b1, b2, b3, b4, b5, b6⟩, B, L, X, U⟩ := R0
  have hL := RL_add (q := q) L hb hlt hk (Or.inl hw)
  have ga : ∀ j, j < 10 ∨ 15 ≤ j → addN g nl k (nI w) q j = g j := fun j hj => by
    unfold addN
    rw [up_o (by omega), up_o (by omega), up_o (by omega), up_o (by omega), up_o (by omega)]
  have ha2 : ∀ j, j < 6 ∨ 9 ≤ j → adlR h nl (nI k) (nI w) q j = h j := fun j hj => by
    unfold adlR
    rw [up_o (by omega), up_o (by omega), up_o (by omega)]
  refine ⟨⟨nb, nl + 1, nx, ⟨hb, hlt, hx⟩, ⟨?_, ?_, ?_, ?_, ?_, ?_⟩, RB_of (fun j hj => ga j (by omega)) (fun j hj => ha2 j (by omega)) B, hL, RX_of (fun j h1 => ga j (by omega)) (fun j h1 => ha2 j (by omega)) X, ?_⟩, ?_⟩
  · rw [upd_n (by decide), upd_n (by decide)]; exact b1
  · rw [upd_s, upd_s]; exact ⟨nI_1 nl, nI_1 nl⟩
  · rw [upd_n (by decide), upd_n (by decide)]; exact b3
  · rw [upd_n (by decide), upd_n (by decide)]; exact b4
  · rw [upd_n (by decide), upd_n (by decide)]; exact b5
  · rw [upd_n (by decide)]; exact b6
  · rw [upd_n (by decide), ordX_eq (g := g) (ga 21 (by decide))]; exact U
  · obtain ⟨cap, -, -, -, H4⟩ := hL
    rw [← (H4 k (by omega)).1]
    have : addN g nl k (nI w) q 12 k = g 12 k + 1 := by simp [addN, up_app]
    rw [this, Int32.add_sub_cancel]
theorem box_eq (R : RN g z v h o u nb nl nx) (x y : Int32) : takX g nx x y = takK h nx x y := by
  obtain ⟨-, -, -, -, X, -⟩ := R
  exact anyN_congr (fun i hi => by rw [(X.1 i hi).1.1, (X.1 i hi).1.2.1])
theorem box_st (R : RN g z v h o u nb nl nx) (hlt : nx < 60) (x y w : Int32) : RELA (if takX g nx x y = true then g else addX g nx x y w) (if takX g nx x y = true then z else vp_updL z nx 0) (if takX g nx x y = true then v else upd v 4 (nI nx + 1)) (if takK h nx x y = true then h else addK h nx x y w) o (if takK h nx x y = true then upd u 0 0 else upd (upd u 0 0) 2 (nI nx + 1)) := by
  rw [box_eq R x y]
  by_cases q : takK h nx x y = true
  · simp only [if_pos q]
    exact ⟨nb, nl, nx, RN_u0 R 0⟩
  · simp only [if_neg q]
    have R0 := RN_u0 R 0
    obtain ⟨⟨hb, hl, hx⟩, ⟨b1, b2, b3, b4, b5, b6⟩, B, L, X, U⟩ := R0
    have ga : ∀ j, j < 16 → addX g nx x y w j = g j := fun j hj => by
      unfold addX
      rw [up_o (by omega), up_o (by omega), up_o (by omega), up_o (by omega), up_o (by omega), up_o (by omega), up_o (by omega)]
    have ha2 : ∀ j, j < 9 → addK h nx x y w j = h j := fun j hj => by
      unfold addK
      rw [up_o (by omega), up_o (by omega), up_o (by omega), up_o (by omega), up_o (by omega), up_o (by omega)]
    refine ⟨nb, nl, nx + 1, ⟨hb, hl, hlt⟩, ⟨?_, ?_, ?_, ?_, ?_, ?_⟩, RB_of (fun j hj => ga j (by omega)) (fun j hj => ha2 j (by omega)) B, RL_of (fun j h1 h2 => ga j (by omega)) (fun j h1 h2 => ha2 j h2) L, RX_add hb hlt X, ?_⟩
    · rw [upd_n (by decide), upd_n (by decide)]; exact b1
    · rw [upd_n (by decide), upd_n (by decide)]; exact b2
    · rw [upd_s, upd_s]; exact ⟨nI_1 nx, nI_1 nx⟩
    · rw [upd_n (by decide), upd_n (by decide)]; exact b4
    · rw [upd_n (by decide), upd_n (by decide)]; exact b5
    · rw [upd_n (by decide)]; exact b6
    · rw [upd_n (by decide), cntN_f (P := ordX (addX g nx x y w)) (by unfold ordX; simp [addX, up_app]), U]
      rw [cntN_congr (P := ordX (addX g nx x y w)) (R := ordX g) (fun i hi => by
        unfold ordX addX
        rw [up_k (by omega), up_k (by omega), up_k (by omega), up_k (by omega), up_k (by omega), up_k (by omega), up_k (by omega)])]
theorem amd_eq (R : RN g z v h o u nb nl nx) {k i w : Nat} (hk : k < nb) (hi : i < nl) (hw : w ≤ 1000000) : amdR g v i k (nI w) = feeK h u k i (nI w) := by
  have ha := fun {c : Nat} (hc : c < 4) => arr_at R hc
  obtain ⟨⟨hb, hl, hx⟩, V, B, ⟨cap, L1, L2, L3, L4⟩, X, U⟩ := R
  obtain ⟨c, hc, ec⟩ := (B.1 k hk).2.2.1
  obtain ⟨-, e11, w0, hw0, e7⟩ := L1.1 i hi
  have hcap := cap_lt hb hl L2 L3 hi
  unfold amdR feeK farK
  rw [e11, e7, (B.1 k hk).1.1, ec, ha hc]
  have hbool : ∀ (A : Int32), (if decide (u 6 >>> (nI c &&& 31) &&& 1 = 1) = true then A else 0) = (if u 6 >>> (nI c &&& 31) &&& 1 = 1 then A else 0) := fun A => by
    by_cases p : u 6 >>> (nI c &&& 31) &&& 1 = 1
    · rw [decide_eq_true p, if_pos rfl, if_pos p]
    · rw [decide_eq_false p, if_neg (by decide), if_neg p]
  rw [hbool]
  rcases Nat.lt_trichotomy w w0 with q | q | q
  · have e1 : nI w - nI w0 = -(nI (w0 - w)) := by rw [← nI_sub (by omega), Int32.neg_sub]
    rw [if_pos (nI_le (by omega) (by omega)), nI_sub (by omega : w ≤ w0), e1, if_neg (neg_nle (by omega) (by omega)), Int32.zero_sub, Int32.neg_neg]
    rw [if_neg (show ¬ -(nI (w0 - w)) = 0 from fun z => neg_nle (d := w0 - w) (by omega) (by omega) (by rw [z]; decide)), if_neg (show ¬ nI (w0 - w) ≤ 0 from nI_ge (a := 0) (by omega) (by omega))]
  · subst q
    rw [if_pos (Int32.sub_self _), if_pos (nI_le (Nat.le_refl w) (by omega)), Int32.sub_self, if_pos (by decide)]
  · rw [if_neg (show ¬ nI w ≤ nI w0 from nI_ge q (by omega)), nI_sub (by omega : w0 ≤ w), if_pos (nI_pos' (by omega)), if_neg (show ¬ nI (w - w0) = 0 from fun z => by have := (nI_eq (b := 0) (by omega) (by decide)).mp z; omega), if_neg (show ¬ nI (w - w0) ≤ 0 from nI_ge (a := 0) (by omega) (by omega))]
theorem amdV_eq (i k : Nat) (w : Int32) : amdV g v i k w = upd v 1 (v 1 + amdR g v i k w) := by
  have hs : upd v 1 (v 1 + 0) = v := by
    rw [Int32.add_zero]
    funext j
    by_cases q : j = 1
    · subst q; exact upd_s _ _ _
    · exact upd_n q
  unfold amdV amdR
  by_cases q : w - g 11 i = 0
  · rw [if_pos q, if_pos q, hs]
  · rw [if_neg q, if_neg q]
    by_cases p : arrS v (g 2 k) = true
    · rw [if_pos p, if_pos p]
    · rw [if_neg p, if_neg p, hs]
theorem amd_st (R : RN g z v h o u nb nl nx) {k i w : Nat} (hk : k < nb) (hi : i < nl) (e : h 6 i = nI k) (hw : w ≤ 1000000) : RELA (chgN g i (nI w) k) z (amdV g v i k (nI w)) (up h 7 i (nI w)) o (upd (upd u 0 0) 4 (u 4 + feeK h u k i (nI w))) := by
  rw [amdV_eq, amd_eq R hk hi hw]
  have R0 := RN_u0 R 0
  obtain ⟨⟨hb, hl, hx⟩, ⟨b1, b2, b3, b4, b5, b6⟩, B, L, X, U⟩ := R0
  rw [upd_n (by decide)] at b5
  have ga : ∀ j, j ≠ 11 → j ≠ 13 → chgN g i (nI w) k j = g j := fun j h1 h2 => by
    unfold chgN
    rw [up_o h2, up_o h1]
  refine ⟨nb, nl, nx, ⟨hb, hl, hx⟩, ⟨?_, ?_, ?_, ?_, ?_, ?_⟩, RB_of (fun j hj => ga j (by omega) (by omega)) (fun j hj => up_o (by omega)) B, RL_chg L hi (by omega) e hw, RX_of (fun j h1 => ga j (by omega) (by omega)) (fun j h1 => up_o (by omega)) X, ?_⟩
  · rw [upd_n (by decide), upd_n (by decide)]; exact b1
  · rw [upd_n (by decide), upd_n (by decide)]; exact b2
  · rw [upd_n (by decide), upd_n (by decide)]; exact b3
  · rw [upd_n (by decide), upd_n (by decide)]; exact b4
  · rw [upd_s, upd_s, b5]
  · rw [upd_n (by decide)]; exact b6
  · rw [upd_n (by decide), ordX_eq (g := g) (ga 21 (by decide) (by decide))]; exact U
theorem tit_eq (R : RN g z v h o u nb nl nx) {k : Nat} (hk : k < nb) (f : Int32) : titR g k f = titK h k f := by
  have ho := ordB_eq R hk
  obtain ⟨-, -, B, -⟩ := R
  unfold titR titK
  rw [(B.1 k hk).1.2.2.2.1, ho]
  by_cases q : h 4 k = f
  · rw [if_pos q, if_pos q]
    by_cases p : h 5 k ≤ 0
    · rw [if_pos p, if_pos p]; rfl
    · rw [if_neg p, if_neg p]; rfl
  · rw [if_neg q, if_neg q]
theorem tit_st (R : RN g z v h o u nb nl nx) {k : Nat} (hk : k < nb) (f t : Int32) : RELA (if titR g k f = true then up g 7 k t else g) z v (if titK h k f = true then up h 4 k t else h) o (upd u 0 0) := by
  rw [tit_eq R hk f]
  have R0 := RN_u0 R 0
  by_cases q : titK h k f = true
  · simp only [if_pos q]
    obtain ⟨s, V, B, L, X, U⟩ := R0
    refine ⟨nb, nl, nx, s, V, RB_47 hk B, RL_of (fun j h1 h2 => up_o (by omega)) (fun j h1 h2 => up_o (by omega)) L, RX_of (fun j h1 => up_o (by omega)) (fun j h1 => up_o (by omega)) X, ?_⟩
    rw [ordX_eq (g := g) (up_o (by decide))]; exact U
  · simp only [if_neg q]
    exact ⟨nb, nl, nx, R0⟩
theorem ord_eq (R : RN g z v h o u nb nl nx) {k j : Nat} (hk : k < nb) (hj : j < nx) (y : Int32) : ordR g z k j y = ordK h o k j y := by
  obtain ⟨⟨hb, hl, hx⟩, -, B, -, X, -⟩ := R
  unfold ordR ordK
  rw [RX_on hb hx X hj (by omega), RX_lan hb hx X hj, (B.1 k hk).1.2.2.2.1]
  simp only [(RX_ord hb hx X hj).1, (RX_l12 hb hx X hj).1]
  by_cases q1 : 0 ≤ h 13 j
  · rw [if_pos q1, if_pos q1]
  · rw [if_neg q1, if_neg q1]
    by_cases q2 : o (60 * j + k) = true
    · rw [if_pos q2, if_pos q2]
      cases lanP h j <;> rfl
    · rw [if_neg q2, if_neg q2]
theorem ord_st (R : RN g z v h o u nb nl nx) {k j : Nat} (hk : k < nb) (hj : j < nx) (y : Int32) : RELA (if ordR g z k j y = true then up (up g 21 j (nI k)) 8 k (g 8 k + 1) else g) z v (if ordK h o k j y = true then up (up h 13 j (nI k)) 5 k (h 5 k + 1) else h) o (if ordK h o k j y = true then upd (upd u 0 0) 5 (u 5 + 1) else upd u 0 0) := by
  rw [ord_eq R hk hj y]
  have R0 := RN_u0 R 0
  by_cases q : ordK h o k j y = true
  · simp only [if_pos q]
    obtain ⟨⟨hb, hl, hx⟩, ⟨b1, b2, b3, b4, b5, b6⟩, B, L, X, U⟩ := R0
    rw [upd_n (by decide)] at U
    have q1 : ordX g j = false := by
      unfold ordK at q
      by_cases q1 : 0 ≤ h 13 j
      · rw [if_pos q1] at q; cases q
      · rw [← (RX_ord hb hx X hj).1] at q1
        simpa using q1
    have e8 : g 8 k + 1 = h 5 k + 1 := by rw [(B.1 k hk).1.2.2.2.2]
    rw [e8]
    refine ⟨nb, nl, nx, ⟨hb, hl, hx⟩, ⟨?_, ?_, ?_, ?_, ?_, ?_⟩, RB_85 hk (RB_of (fun i hi => up_o (by omega)) (fun i hi => up_o (by omega)) B), RL_of (fun i h1 h2 => by rw [up_o (by omega), up_o (by omega)]) (fun i h1 h2 => by rw [up_o (by omega), up_o (by omega)]) L, RX_of (fun i h1 => up_o (by omega)) (fun i h1 => up_o (by omega)) (RX_order X hj hk), ?_⟩
    · rw [upd_n (by decide)]; exact b1
    · rw [upd_n (by decide)]; exact b2
    · rw [upd_n (by decide)]; exact b3
    · rw [upd_n (by decide)]; exact b4
    · rw [upd_n (by decide)]; exact b5
    · rw [upd_n (by decide)]; exact b6
    · rw [upd_s, ordX_eq (g := up g 21 j (nI k)) (up_o (by decide)), U]
      rw [cntN_one (P := ordX g) (R := ordX (up g 21 j (nI k))) (k := j) q1 (by unfold ordX; rw [up_s, if_neg (nI_nm1 (by omega))]) (fun i hi => by unfold ordX; rw [up_k hi]) hj]
      exact nI_1 _
  · simp only [if_neg q]
    exact ⟨nb, nl, nx, R0⟩
/-! look, seen, like -/
theorem loo_eq (R : RN g z v h o u nb nl nx) {j : Nat} (hj : j < nb) (k : Nat) (hk : k < 16) : looS g z nb nx j k = looK h o nb nl nx j k := by
  have hd := dif_eq R hj
  have hn := lno_eq R hj
  obtain ⟨a, ha, ea⟩ := lwt_nat R hj
  obtain ⟨⟨hb, hl, hx⟩, -, B, L, X, -⟩ := R
  obtain ⟨w, hw, ew⟩ := RL_wt hl L (b := j) (by omega)
  obtain ⟨cap, L1, L2, L3, L4⟩ := L
  have h13 := L1.2 j (by omega)
  obtain ⟨⟨a1, a2, a3, a4, a5⟩, ⟨a6, a7, -⟩, -⟩ := B.1 j hj
  rcases (show k = 0 ∨ k = 1 ∨ k = 2 ∨ k = 3 ∨ k = 4 ∨ k = 5 ∨ k = 6 ∨ k = 7 ∨ k = 8 ∨ k = 9 ∨ k = 10 ∨ k = 11 ∨ k = 12 ∨ k = 13 ∨ k = 14 ∨ k = 15 by omega) with rfl | rfl | rfl | rfl | rfl | rfl | rfl | rfl | rfl | rfl | rfl | rfl | rfl | rfl | rfl | rfl
  · exact a1
  · exact a2
  · exact a3
  · exact a6
  · exact (L4 j (by omega)).1
  · exact h13
  · exact (L4 j (by omega)).2
  · exact hd
  · exact hn
  · show (if g 13 j - lnoX g z nx (nI j) < 0 then 0 else g 13 j - lnoX g z nx (nI j)) = (if wofR h nl (nI j) - lwtR h o nb nx j ≤ 0 then 0 else wofR h nl (nI j) - lwtR h o nb nx j)
    rw [h13, hn]; exact short_eq
  · show (if lnoX g z nx (nI j) - g 13 j < 0 then 0 else lnoX g z nx (nI j) - g 13 j) = (if 0 ≤ wofR h nl (nI j) - lwtR h o nb nx j then 0 else -(wofR h nl (nI j) - lwtR h o nb nx j))
    rw [h13, hn, ew, ea]
    exact over_eq (by omega) (by omega)
  · exact a4
  · exact a5
  · show nI (undB g nb (nI j)) = nI (belR h nb (nI j))
    unfold undB belR
    rw [cntN_congr (P := fun k => decide (g 4 k = nI j)) (R := fun k => decide (h 3 k = nI j)) (fun i hi => by rw [(B.1 i hi).1.2.2.1])]
  · show nI (cntN (fun k => onX z k (nI j)) nx) = nI (xofR o nx j)
    unfold xofR
    rw [cntN_congr (P := fun k => onX z k (nI j)) (R := fun k => o (60 * k + j)) (fun i hi => RX_on hb hx X hi (by omega))]
  · exact a7
theorem see_eq (R : RN g z v h o u nb nl nx) {j : Nat} (hj : j < nx) (k : Nat) (hk : k < 10) : seeS g z nx j k = seeK h o nb nx j k := by
  obtain ⟨⟨hb, hl, hx⟩, -, B, L, X, -⟩ := R
  obtain ⟨⟨a1, a2, a3, a4, a5, a6⟩, -⟩ := X.1 j hj
  rcases (show k = 0 ∨ k = 1 ∨ k = 2 ∨ k = 3 ∨ k = 4 ∨ k = 5 ∨ k = 6 ∨ k = 7 ∨ k = 8 ∨ k = 9 by omega) with rfl | rfl | rfl | rfl | rfl | rfl | rfl | rfl | rfl | rfl
  · exact a1
  · exact a2
  · exact a3
  · exact a4
  · show nI (popc (z j)) = nI (bofR o nb j)
    rw [RX_popc hb hx X hj]
  · show bI (waiX g z j) = bI (wnoR h o nb j)
    rw [RX_wai hb hx X hj]
  · exact a5
  · exact a6
  · show nI (firL g nx 60 j) = nI (firR h nx 60 j)
    rw [RX_fir hb hx X 60 j hj]
  · show wsfL g nx 60 j (g 18 j) = (if nI j < 0 then 0 else sumB h nx 60 (prvR h nx (nI j)) (0 + h 11 (ix (nI j))))
    rw [if_neg (nI_pos (by omega)), ix_nI (by omega), Int32.zero_add, RX_wsf hb hx X 60 j _ hj, a3]
theorem see_pick (R : RN g z v h o u nb nl nx) {j : Nat} (hj : j < nx) (x : Int32) : pickN (fun b => onX z j (nI b)) x 60 = pickN (fun b => o (60 * j + b)) x 60 := by
  obtain ⟨⟨hb, hl, hx⟩, -, B, L, X, -⟩ := R
  exact pickN_congr (fun i hi => RX_on hb hx X hj hi)
theorem see_cnt (R : RN g z v h o u nb nl nx) {j : Nat} (hj : j < nx) : cntN (fun b => o (60 * j + b)) 60 = bofR o nb j := by
  obtain ⟨⟨hb, hl, hx⟩, -, B, L, X, -⟩ := R
  exact RX_bof (nx := nx) (by omega) hb (Nat.le_refl 60) X.2.2.1
theorem see_hit (R : RN g z v h o u nb nl nx) {j n : Nat} (hj : j < nx) (hn : n < bofR o nb j) : ∃ q, q < nb ∧ o (60 * j + q) = true ∧ cntN (fun b => o (60 * j + b)) q = n ∧ pickN (fun b => onX z j (nI b)) (nI n) 60 = nI q := by
  rw [see_pick R hj]
  obtain ⟨q, h1, h2, h3, h4⟩ := pickN_at (P := fun b => o (60 * j + b)) (m := n) (n := 60) (by decide) (by rw [see_cnt R hj]; exact hn)
  obtain ⟨⟨hb, hl, hx⟩, -, B, L, X, -⟩ := R
  exact ⟨q, (X.2.2.1 j q (by omega) h1 h2).2, h2, h3, h4⟩
theorem see_miss (R : RN g z v h o u nb nl nx) {j n : Nat} (hj : j < nx) (hn : bofR o nb j ≤ n) (hn2 : n < 2 ^ 31) : pickN (fun b => onX z j (nI b)) (nI n) 60 = -1 := by
  rw [see_pick R hj]
  exact pickN_low hn2 (by rw [see_cnt R hj]; exact hn)
theorem lik_eq (R : RN g z v h o u nb nl nx) {n0 : Nat} (h0 : n0 < 100000000) (x y : Int32) : pickN (likP g x n0) y nb = pickN (likK h x n0) y nb := by
  obtain ⟨⟨hb, hl, hx⟩, -, B, L, X, -⟩ := R
  refine pickN_congr (fun i hi => ?_)
  obtain ⟨⟨a1, a2, -⟩, -, -, n, hn, e⟩ := B.1 i hi
  unfold likP likK
  rw [a1, a2, e, ix_nI (by omega), alk_eq 8 n n0 (by omega) (by omega)]
  by_cases q : h 1 i = x
  · rw [if_pos q, decide_eq_true q, Bool.true_and]
  · rw [if_neg q, decide_eq_false q, Bool.false_and]
theorem R_num3 (R : RN g z v h o u nb nl nx) : ∀ i, i < nb → ∃ n, n < 100000000 ∧ g 3 i = nI n := fun i hi => by
  obtain ⟨-, -, B, -⟩ := R
  obtain ⟨n, hn, e⟩ := (B.1 i hi).2.2.2
  exact ⟨n, hn, by rw [(B.1 i hi).1.2.1]; exact e⟩
theorem R_num2 (R : RN g z v h o u nb nl nx) : ∀ i, i < nb → ∃ n, n < 100000000 ∧ h 2 i = nI n := fun i hi => by
  obtain ⟨-, -, B, -⟩ := R
  exact (B.1 i hi).2.2.2
theorem R_abv (R : RN g z v h o u nb nl nx) : abvOk (h 3) nb := by
  obtain ⟨-, -, B, -⟩ := R
  exact B.2.2
end EQ2
