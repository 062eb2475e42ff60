/-! Pure: split -/
theorem pigeon {f : Nat → Int32} {n0 nb : Nat} (hn : n0 ≤ 100000000) : ∀ (m : Nat), m ≤ 100000000 → (∀ t, n0 < t → t ≤ n0 + m → ∃ b, b < nb ∧ f b = nI t) → m ≤ cntN (fun b => anyN (fun t => decide (f b = nI (n0 + 1 + t))) m) nb
  | 0, _, _ => Nat.zero_le _
  | m + 1, hm, h => by
    have ih := pigeon hn m (by omega) (fun t h1 h2 => h t h1 (by omega))
    obtain ⟨b, hb, e⟩ := h (n0 + 1 + m) (by omega) (by omega)
    have : cntN (fun b => anyN (fun t => decide (f b = nI (n0 + 1 + t))) m) nb < cntN (fun b => anyN (fun t => decide (f b = nI (n0 + 1 + t))) (m + 1)) nb := by
      refine cntN_imp_lt (p := b) ?_ ?_ (fun i _ q => ?_) hb
      · cases q : anyN (fun t => decide (f b = nI (n0 + 1 + t))) m with
        | false => rfl
        | true =>
          obtain ⟨t, ht, e2⟩ := anyN_on q
          simp only [decide_eq_true_eq] at e2
          rw [e] at e2
          have := (nI_eq (by omega) (by omega)).mp e2
          omega
      · exact anyN_hit (i := m) (by simp [e]) (Nat.lt_succ_self m)
      · obtain ⟨t, ht, e2⟩ := anyN_on q
        exact anyN_hit (i := t) e2 (Nat.lt_succ_of_lt ht)
    omega
theorem least {P : Nat → Prop} {a : Nat} : ∀ (d : Nat), P (a + d) → ∃ s, a ≤ s ∧ s ≤ a + d ∧ P s ∧ ∀ t, a ≤ t → t < s → ¬ P t
  | 0, h => ⟨a, Nat.le_refl _, Nat.le_refl _, h, fun t h1 h2 => absurd h2 (by omega)⟩
  | d + 1, h => by
    by_cases q : ∃ t, t ≤ d ∧ P (a + t)
    · obtain ⟨t, ht, hp⟩ := q
      obtain ⟨s, h1, h2, h3, h4⟩ := least t hp
      exact ⟨s, h1, by omega, h3, h4⟩
    · refine ⟨a + (d + 1), by omega, Nat.le_refl _, h, fun t h1 h2 hp => q ⟨t - a, by omega, ?_⟩⟩
      rw [show a + (t - a) = t by omega]; exact hp
section SP
variable {g : Nat → Nat → Int32} {z : Nat → Int64} {v : Nat → Int32} {h : Nat → Nat → Int32} {o : Nat → Bool} {u : Nat → Int32} {nb nl nx : Nat}
theorem num_neg (R : RN g z v h o u nb nl nx) (x : Int32) (t : Nat) : (numR h nb x (nI t) < 0) = (takB g nb x (nI t) = false) := by
  have ht := tak_eq R x (nI t)
  obtain ⟨⟨hb, hl, hx⟩, -⟩ := R
  rw [lt0_ge, num_tak hb, ht]
  apply propext
  cases anyN (fun k => decide (h 1 k = x) && decide (h 2 k = nI t)) nb <;> simp
theorem num_big (R : RN g z v h o u nb nl nx) (x : Int32) : numR h nb x (nI 100000000) < 0 := by
  obtain ⟨⟨hb, hl, hx⟩, -, B, -⟩ := R
  rw [lt0_ge, num_tak hb]
  intro q
  obtain ⟨i, hi, e⟩ := anyN_on q
  rw [Bool.and_eq_true, decide_eq_true_eq, decide_eq_true_eq] at e
  obtain ⟨n, hn, e2⟩ := (B.1 i hi).2.2.2
  rw [e2] at e
  have := (nI_eq (by omega) (by omega)).mp e.2
  omega
theorem spl_num (R : RN g z v h o u nb nl nx) {k n9 : Nat} (hk : k < nb) (hlt : nb < 60) (e : h 2 k = nI n9) (hn : n9 < 100000000) : ∃ s9, n9 < s9 ∧ s9 ≤ 100000000 ∧ numR h nb (h 1 k) (nI s9) < 0 ∧ (∀ t, n9 < t → t < s9 → ¬ numR h nb (h 1 k) (nI t) < 0) ∧ nfnL g nb k 60 1 = (if s9 = 100000000 then -1 else nI s9) := by
  have hnn := fun x t => num_neg R x t
  obtain ⟨s9, h1, h2, h3, h4⟩ := least (P := fun t => numR h nb (h 1 k) (nI t) < 0) (a := n9 + 1) (100000000 - (n9 + 1)) (by rw [show n9 + 1 + (100000000 - (n9 + 1)) = 100000000 by omega]; exact num_big R _)
  refine ⟨s9, by omega, by omega, h3, fun t a b => h4 t (by omega) b, ?_⟩
  have hpg : s9 ≤ n9 + 60 := by
    have := pigeon (f := h 2) (nb := nb) (n0 := n9) (by omega) (s9 - 1 - n9) (by omega) (fun t a b => by
      have := h4 t (by omega) (by omega)
      rw [lt0_ge, num_tak (by omega), Classical.not_not] at this
      obtain ⟨i, hi, e⟩ := anyN_on this
      rw [Bool.and_eq_true, decide_eq_true_eq, decide_eq_true_eq] at e
      exact ⟨i, hi, e.2⟩)
    have h5 := cntN_le (fun b => anyN (fun t => decide (h 2 b = nI (n9 + 1 + t))) (s9 - 1 - n9)) nb
    omega
  obtain ⟨-, -, B, -⟩ := R
  obtain ⟨a1, a2, -⟩ := (B.1 k hk).1
  have key : ∀ (f j : Nat), j + f = 61 → 0 < j → n9 + j ≤ s9 → nfnL g nb k f j = (if s9 = 100000000 then -1 else nI s9) := by
    intro f
    induction f with
    | zero => intro j a b c; exact absurd c (by omega)
    | succ f ih =>
      intro j a b c
      show (if g 3 k + nI j ≤ 99999999 then (if takB g nb (g 2 k) (g 3 k + nI j) = true then nfnL g nb k f (j + 1) else g 3 k + nI j) else -1) = _
      rw [a2, e, a1, nI_add]
      by_cases q : n9 + j = s9
      · rw [q]
        by_cases q2 : s9 = 100000000
        · rw [if_pos q2, if_neg (show ¬ nI s9 ≤ (99999999 : Int32) by rw [q2]; decide)]
        · rw [if_neg q2, if_pos (show nI s9 ≤ (99999999 : Int32) from nI_le (b := 99999999) (by omega) (by decide))]
          rw [hnn] at h3
          rw [h3, if_neg (by decide)]
      · have h5 := h4 (n9 + j) (by omega) (by omega)
        rw [hnn] at h5
        have h6 : takB g nb (h 1 k) (nI (n9 + j)) = true := by simpa using h5
        rw [if_pos (show nI (n9 + j) ≤ (99999999 : Int32) from nI_le (b := 99999999) (by omega) (by decide)), h6, if_pos rfl]
        exact ih (j + 1) (by omega) (by omega) (by omega)
  exact key 60 1 rfl (by decide) (by omega)
theorem spl_eq (R : RN g z v h o u nb nl nx) {k s9 : Nat} (hk : k < nb) (hs : s9 ≤ 100000000) (w : Int32) (hnf : nfnL g nb k 60 1 = (if s9 = 100000000 then -1 else nI s9)) : spR g nb k w = splK h nb nl k w s9 := by
  have ho := ordB_eq R hk
  obtain ⟨⟨hb, hl, hx⟩, -, B, ⟨cap, L1, -⟩, -⟩ := R
  unfold spR splK
  rw [L1.2 k (by omega), ho, hnf]
  have hu : undB g nb (nI k) = belR h nb (nI k) := by
    unfold undB belR
    exact cntN_congr (fun i hi => by rw [(B.1 i hi).1.2.2.1])
  rw [hu]
  by_cases q1 : wofR h nl (nI k) ≤ w
  · rw [if_pos q1, if_pos q1]
  · rw [if_neg q1, if_neg q1]
    by_cases q2 : 0 < nI (belR h nb (nI k))
    · rw [if_pos q2, if_pos q2]
    · rw [if_neg q2, if_neg q2]
      by_cases q3 : h 5 k ≤ 0
      · rw [if_pos q3, if_neg (show ¬ false = true by decide), if_neg (Int32.not_lt.mpr q3)]
        by_cases q4 : s9 = 100000000
        · rw [if_pos q4, if_pos q4, if_pos rfl]
        · rw [if_neg q4, if_neg q4, if_neg (nI_nm1 (by omega))]
      · rw [if_neg q3, if_pos rfl, if_pos (Int32.not_le.mp q3)]
theorem spl_st (R : RN g z v h o u nb nl nx) (hlt : nb < 60) (hlt2 : nl < 200) {k s9 : Nat} (hk : k < nb) (hs : s9 ≤ 100000000) (w : Int32) (hw1 : 1 ≤ w) (hnf : nfnL g nb k 60 1 = (if s9 = 100000000 then -1 else nI s9)) : RELA (if spR g nb k w = true then splG g nb nl k w else g) z (if spR g nb k w = true then upd (upd v 2 (nI nb + 1)) 3 (nI nl + 1) else v) (if splK h nb nl k w s9 = true then spH h nb nl k w s9 else h) o (if splK h nb nl k w s9 = true then upd (upd (upd u 0 0) 1 (nI nb + 1)) 3 (nI nl + 1) else upd u 0 0) := by
  rw [spl_eq R hk hs w hnf]
  have R0 := RN_u0 R 0
  by_cases q : splK h nb nl k w s9 = true
  · simp only [if_pos q]
    obtain ⟨⟨hb, hl, hx⟩, ⟨b1, b2, b3, b4, b5, b6⟩, B, L, X, U⟩ := R0
    unfold splK at q
    obtain ⟨W, hW, eW⟩ := RL_wt hl L (b := k) (by omega)
    have q1 : ¬ wofR h nl (nI k) ≤ w := fun z => by rw [if_pos z] at q; cases q
    rw [if_neg q1] at q
    have q9 : ¬ s9 = 100000000 := fun z => by
      rw [if_pos z] at q
      by_cases p1 : 0 < nI (belR h nb (nI k))
      · rw [if_pos p1] at q; cases q
      · rw [if_neg p1] at q
        by_cases p2 : 0 < h 5 k
        · rw [if_pos p2] at q; cases q
        · rw [if_neg p2] at q; cases q
    rw [if_neg q9] at hnf
    have hw0 : ¬ w < 0 := fun z => absurd (Int32.lt_of_lt_of_le z (Int32.le_trans (by decide : (0 : Int32) ≤ 1) hw1)) (Int32.lt_irrefl)
    obtain ⟨m, hm, rfl⟩ := nI_of hw0
    rw [eW] at q1
    have hmW : m < W := Nat.not_le.mp (fun z => q1 (nI_le z hm))
    obtain ⟨c, hc, ec⟩ := (B.1 k hk).2.2.1
    obtain ⟨a1, a2, a3, a4, a5⟩ := (B.1 k hk).1
    have hd4 := (B.1 k hk).2.1.2.2
    unfold splG spH
    rw [hnf, a1, a3, a4, ec]
    -- bills
    have B1 : RB (takN k nl (nI m) g) (spK (nI k) nl (lofR h nl (nI k)) (nI m) h) nb := RB_of (fun j hj => takN_at (by omega) (by omega) _ _ g) (fun j hj => spK_at (by omega) _ _ h) B
    have s3 : (spK (nI k) nl (lofR h nl (nI k)) (nI m) h) 3 = h 3 := spK_at (by decide) _ _ h
    have ha : h 3 k = -1 ∨ ∃ j, j < nb ∧ h 3 k = nI j ∧ depF ((spK (nI k) nl (lofR h nl (nI k)) (nI m) h) 3) 60 j ≤ 3 := by
      rw [s3]
      rcases B.2.2 k hk with e | ⟨j, hj, e⟩
      · exact Or.inl e
      · refine Or.inr ⟨j, by omega, e, ?_⟩
        have := depF_step B.2.2 hb hk hj e
        omega
    have B2 := RB_add (a4 := h 4 k) hlt B1 hc (by omega : s9 < 100000000) ha
    -- lines
    have L1 := RL_take (m := m) L hb hl (show k < 60 by omega) hm
    have ga : ∀ j, 9 ≤ j → addB (takN k nl (nI m) g) nb (nI c) (nI s9) (h 3 k) (h 4 k) j = takN k nl (nI m) g j := fun j hj => by
      unfold addB
      rw [up_o (by omega), up_o (by omega), up_o (by omega), up_o (by omega), up_o (by omega), up_o (by omega), up_o (by omega)]
    have ha2 : ∀ j, 6 ≤ j → (up (makR (spK (nI k) nl (lofR h nl (nI k)) (nI m) h) nb (nI c) (nI s9) (h 3 k)) 4 nb (h 4 k)) j = spK (nI k) nl (lofR h nl (nI k)) (nI m) h j := fun j hj => by
      unfold makR
      rw [up_o (by omega), up_o (by omega), up_o (by omega), up_o (by omega)]
    have L2 : RL (addB (takN k nl (nI m) g) nb (nI c) (nI s9) (h 3 k) (h 4 k)) (up (makR (spK (nI k) nl (lofR h nl (nI k)) (nI m) h) nb (nI c) (nI s9) (h 3 k)) 4 nb (h 4 k)) nb nl := RL_of (fun j h1 h2 => ga j (by omega)) (fun j h1 h2 => ha2 j h1) L1
    have hz : ∀ i, i < nl → ¬ (up (makR (spK (nI k) nl (lofR h nl (nI k)) (nI m) h) nb (nI c) (nI s9) (h 3 k)) 4 nb (h 4 k)) 6 i = nI nb := by
      obtain ⟨cap, -, H2, -⟩ := L2
      intro i hi z
      obtain ⟨-, j, hj, e⟩ := H2 i hi
      rw [e] at z
      have := (nI_eq (by omega) (by omega)).mp z
      omega
    have L3 := RL_add (k := nb) (w := m) (q := 0) (RL_nb (Nat.le_succ nb) L2) hlt hlt2 (Nat.lt_succ_self nb) (Or.inr ⟨hz, by omega⟩)
    have gn : ∀ (G : Nat → Nat → Int32) (j : Nat), j < 10 ∨ 15 ≤ j → addN G nl nb (nI m) 0 j = G j := fun G j hj => by
      unfold addN
      rw [up_o (by omega), up_o (by omega), up_o (by omega), up_o (by omega), up_o (by omega)]
    have hn2 : ∀ (G : Nat → Nat → Int32) (j : Nat), j < 6 ∨ 9 ≤ j → adlR G nl (nI nb) (nI m) 0 j = G j := fun G j hj => by
      unfold adlR
      rw [up_o (by omega), up_o (by omega), up_o (by omega)]
    refine ⟨nb + 1, nl + 1, nx, ⟨hlt, hlt2, hx⟩, ⟨?_, ?_, ?_, ?_, ?_, ?_⟩, RB_of (fun j hj => gn _ j (by omega)) (fun j hj => hn2 _ j (by omega)) B2, L3, ?_, ?_⟩
    · rw [upd_n (by decide), upd_s, upd_n (by decide), upd_s]; exact ⟨nI_1 nb, nI_1 nb⟩
    · rw [upd_s, upd_s]; exact ⟨nI_1 nl, nI_1 nl⟩
    · rw [upd_n (by decide), upd_n (by decide), upd_n (by decide), upd_n (by decide)]; exact b3
    · rw [upd_n (by decide), upd_n (by decide), upd_n (by decide), upd_n (by decide)]; exact b4
    · rw [upd_n (by decide), upd_n (by decide), upd_n (by decide), upd_n (by decide)]; exact b5
    · rw [upd_n (by decide), upd_n (by decide)]; exact b6
    · refine RX_nb hx (Nat.le_succ nb) hlt (RX_of (fun j h1 => ?_) (fun j h1 => ?_) X)
      · rw [gn _ j (by omega), ga j (by omega), takN_at (by omega) (by omega)]
      · rw [hn2 _ j (by omega), ha2 j (by omega), spK_at (by omega)]
    · rw [upd_n (by decide), upd_n (by decide), ordX_eq (g := g) (by rw [gn _ 21 (by decide), ga 21 (by decide), takN_at (by decide) (by decide)])]; exact U
  · simp only [if_neg q]
    exact ⟨nb, nl, nx, R0⟩
end SP
/-! who throws, on both sides -/
theorem full_eq {n m : Nat} (h : n ≤ m) : decide (m ≤ n) = decide (n = m) := decide_eq_decide.mpr (by omega)
theorem bilT_eq {nb : Nat} (hb : nb ≤ 60) (x y : Int32) : bilT nb x y = nI (cbT nb x y) := by
  unfold bilT cbT
  rw [isCall_eq, isNum_eq, full_eq hb]
  by_cases q1 : inS x 0 3 = true
  · rw [if_pos q1, if_pos q1]
    by_cases q2 : inS y 0 99999999 = true
    · rw [if_pos q2, if_pos q2]
      by_cases q3 : nb = 60
      · rw [if_pos q3, if_pos (decide_eq_true q3)]; rfl
      · rw [if_neg q3, if_neg (by simpa using q3)]; rfl
    · rw [if_neg q2, if_neg q2]; rfl
  · rw [if_neg q1, if_neg q1]; rfl
theorem linT_eq {nb nl : Nat} (hl : nl ≤ 200) (x y q : Int32) : linT nb nl x y q = nI (clT nb nl x y q) := by
  unfold linT clT
  rw [isWt_eq, full_eq hl]
  by_cases q1 : inN nb x = true
  · rw [if_pos q1, if_pos q1]
    by_cases q2 : inS y 0 1000000 = true
    · rw [if_pos q2, if_pos q2]
      unfold inS
      by_cases q3 : q < 0
      · rw [if_pos q3, if_pos q3]; rfl
      · rw [if_neg q3, if_neg q3]
        by_cases q4 : q ≤ 10000
        · rw [if_pos q4, if_neg (Int32.not_lt.mpr q4), if_pos rfl]
          by_cases q5 : nl = 200
          · rw [if_pos q5, if_pos (decide_eq_true q5)]; rfl
          · rw [if_neg q5, if_neg (by simpa using q5)]; rfl
        · rw [if_neg q4, if_pos (Int32.not_le.mp q4)]; rfl
    · rw [if_neg q2, if_neg q2]; rfl
  · rw [if_neg q1, if_neg q1]; rfl
theorem boxT_eq {nx : Nat} (hb : nx ≤ 60) (x y q : Int32) : boxT nx x y q = nI (cxT nx x y q) := by
  unfold boxT cxT
  rw [isCall_eq, isNum_eq, isWt_eq, full_eq hb]
  by_cases q1 : inS x 0 3 = true
  · rw [if_pos q1, if_pos q1]
    by_cases q2 : inS y 0 99999999 = true
    · rw [if_pos q2, if_pos q2]
      by_cases q4 : inS q 0 1000000 = true
      · rw [if_pos q4, if_pos q4]
        by_cases q3 : nx = 60
        · rw [if_pos q3, if_pos (decide_eq_true q3)]; rfl
        · rw [if_neg q3, if_neg (by simpa using q3)]; rfl
      · rw [if_neg q4, if_neg q4]; rfl
    · rw [if_neg q2, if_neg q2]; rfl
  · rw [if_neg q1, if_neg q1]; rfl
theorem splT_eq {nb nl : Nat} (hb : nb ≤ 60) (hl : nl ≤ 200) (x y : Int32) : splT nb nl x y = nI (csT nb nl x y) := by
  unfold splT csT
  rw [full_eq hb, full_eq hl]
  by_cases q1 : inN nb x = true
  · rw [if_pos q1, if_pos q1]
    by_cases q2 : 1 ≤ y
    · rw [if_pos q2, if_pos q2]
      by_cases q3 : nb = 60
      · rw [if_pos q3, if_pos (decide_eq_true q3)]; rfl
      · rw [if_neg q3, if_neg (show ¬ decide (nb = 60) = true by simpa using q3)]
        by_cases q4 : nl = 200
        · rw [if_pos q4, if_pos (decide_eq_true q4)]; rfl
        · rw [if_neg q4, if_neg (by simpa using q4)]; rfl
    · rw [if_neg q2, if_neg q2]; rfl
  · rw [if_neg q1, if_neg q1]; rfl
theorem titT_eq (nb : Nat) (x y q : Int32) : titT nb x y q = nI (ctT nb x y q) := by
  unfold titT ctT
  rw [isHo_eq, isHo_eq]
  by_cases q1 : inN nb x = true
  · rw [if_pos q1, if_pos q1]
    by_cases q2 : inS y 0 9 = true
    · rw [if_pos q2, if_pos q2]
      by_cases q3 : inS q 0 9 = true
      · rw [if_pos q3, if_pos q3]
        by_cases q4 : y = q
        · rw [if_pos q4, if_pos q4]; rfl
        · rw [if_neg q4, if_neg q4]; rfl
      · rw [if_neg q3, if_neg q3]; rfl
    · rw [if_neg q2, if_neg q2]; rfl
  · rw [if_neg q1, if_neg q1]; rfl
theorem ordT_eq (nb nx : Nat) (x y q : Int32) : ordT nb nx x y q = nI (coT nb nx x y q) := by
  unfold ordT coT
  rw [isHo_eq]
  by_cases q1 : inN nb x = true
  · rw [if_pos q1, if_pos q1]
    by_cases q2 : inN nx y = true
    · rw [if_pos q2, if_pos q2]
      by_cases q3 : inS q 0 9 = true
      · rw [if_pos q3, if_pos q3]; rfl
      · rw [if_neg q3, if_neg q3]; rfl
    · rw [if_neg q2, if_neg q2]; rfl
  · rw [if_neg q1, if_neg q1]; rfl
theorem likT_eq (x y : Int32) : likT x y = nI (ckT x y) := by
  unfold likT ckT
  rw [isCall_eq, isNum_eq]
  by_cases q1 : inS x 0 3 = true
  · rw [if_pos q1, if_pos q1]
    by_cases q2 : inS y 0 99999999 = true
    · rw [if_pos q2, if_pos q2]; rfl
    · rw [if_neg q2, if_neg q2]; rfl
  · rw [if_neg q1, if_neg q1]; rfl
theorem amdT_eq {g : Nat → Nat → Int32} {z : Nat → Int64} {v : Nat → Int32} {h : Nat → Nat → Int32} {o : Nat → Bool} {u : Nat → Int32} {nb nl nx : Nat} (R : RN g z v h o u nb nl nx) (x y q : Int32) : amdT h nb nl x y q = nI (caT g nb nl x y q) := by
  obtain ⟨⟨hb, hl, hx⟩, -, -, ⟨cap, L1, -⟩, -⟩ := R
  unfold amdT caT
  rw [isWt_eq]
  by_cases q1 : inN nb x = true
  · rw [if_pos q1, if_pos q1]
    have e : rowN g nl x y = pickN (fun k => decide (h 6 k = x)) y nl := pickN_congr (fun i hi => by rw [(L1.1 i hi).1])
    rw [e]
    by_cases q2 : y < 0
    · rw [if_pos q2, if_pos (pickN_neg q2 (by omega))]; rfl
    · rw [if_neg q2]
      obtain ⟨m, hm, rfl⟩ := nI_of q2
      have hc : lofR h nl x ≤ nl := cntN_le _ _
      by_cases q3 : lofR h nl x ≤ m
      · rw [if_pos (nI_le q3 hm), if_pos (pickN_low hm q3)]; rfl
      · rw [if_neg (nI_ge (Nat.not_le.mp q3) (by omega)), if_neg (show ¬ pickN (fun k => decide (h 6 k = x)) (nI m) nl = -1 from fun z => q3 (by rw [pickN_m1 (by omega) hm] at z; exact z))]
        by_cases q4 : inS q 0 1000000 = true
        · rw [if_pos q4, if_pos q4]; rfl
        · rw [if_neg q4, if_neg q4]; rfl
  · rw [if_neg q1, if_neg q1]; rfl
theorem cT3 (nb nl nx : Nat) (x y q : Int32) : (cbT nb x y = 0 ∨ cbT nb x y = 1 ∨ cbT nb x y = 2) ∧ (clT nb nl x y q = 0 ∨ clT nb nl x y q = 1 ∨ clT nb nl x y q = 2) ∧ (cxT nx x y q = 0 ∨ cxT nx x y q = 1 ∨ cxT nx x y q = 2) ∧ (csT nb nl x y = 0 ∨ csT nb nl x y = 1 ∨ csT nb nl x y = 2) := by
  refine ⟨?_, ?_, ?_, ?_⟩
  · unfold cbT; repeat' split
    all_goals simp
  · unfold clT; repeat' split
    all_goals simp
  · unfold cxT; repeat' split
    all_goals simp
  · unfold csT; repeat' split
    all_goals simp
theorem cT2 (g : Nat → Nat → Int32) (nb nl nx : Nat) (x y q : Int32) : (caT g nb nl x y q = 0 ∨ caT g nb nl x y q = 1) ∧ (ctT nb x y q = 0 ∨ ctT nb x y q = 1) ∧ (coT nb nx x y q = 0 ∨ coT nb nx x y q = 1) ∧ (ckT x y = 0 ∨ ckT x y = 1) ∧ (ceT nx x y = 0 ∨ ceT nx x y = 1) := by
  refine ⟨?_, ?_, ?_, ?_, ?_⟩
  · unfold caT; repeat' split
    all_goals simp
  · unfold ctT; repeat' split
    all_goals simp
  · unfold coT; repeat' split
    all_goals simp
  · unfold ckT; repeat' split
    all_goals simp
  · unfold ceT; repeat' split
    all_goals simp
