/-! Pure: counting, picking, adding -/
theorem cntN_zero {P : Nat → Bool} : ∀ {n : Nat}, (∀ i, i < n → P i = false) → cntN P n = 0
  | 0, _ => rfl
  | n + 1, h => by rw [cntN_f (h n (Nat.lt_succ_self n))]; exact cntN_zero (fun i hi => h i (Nat.lt_succ_of_lt hi))
theorem cntN_lt {P : Nat → Bool} {i n : Nat} (hi : i < n) (h : P i = true) : cntN P i < cntN P n := by
  have h1 := cntN_t h
  have h2 : cntN P (i + 1) ≤ cntN P n := cntN_mono (by omega)
  omega
theorem cntN_pos {P : Nat → Bool} {i n : Nat} (hi : i < n) (h : P i = true) : 0 < cntN P n := Nat.lt_of_le_of_lt (Nat.zero_le _) (cntN_lt hi h)
theorem cntN_ext {P : Nat → Bool} {m : Nat} : ∀ {n : Nat}, m ≤ n → (∀ i, m ≤ i → i < n → P i = false) → cntN P n = cntN P m
  | 0, h, _ => by rw [show m = 0 by omega]
  | n + 1, h, hp => by
    rcases Nat.lt_or_ge n m with q | q
    · rw [show m = n + 1 by omega]
    · rw [cntN_f (hp n q (Nat.lt_succ_self n))]
      exact cntN_ext q (fun i h1 h2 => hp i h1 (Nat.lt_succ_of_lt h2))
theorem cntN_full {P : Nat → Bool} : ∀ {n : Nat}, (∀ i, i < n → P i = true) → cntN P n = n
  | 0, _ => rfl
  | n + 1, h => by rw [cntN_t (h n (Nat.lt_succ_self n)), cntN_full (fun i hi => h i (Nat.lt_succ_of_lt hi))]
/-- one more holds than before -/
theorem cntN_one {P R : Nat → Bool} {k : Nat} (hp : P k = false) (hr : R k = true) (he : ∀ i, i ≠ k → R i = P i) : ∀ {n : Nat}, k < n → cntN R n = cntN P n + 1
  | 0, h => absurd h (Nat.not_lt_zero _)
  | n + 1, h => by
    rcases Nat.lt_or_ge k n with q | q
    · have ih := cntN_one hp hr he q
      show (if R n = true then cntN R n + 1 else cntN R n) = (if P n = true then cntN P n + 1 else cntN P n) + 1
      rw [he n (by omega), ih]
      split <;> rfl
    · have e : k = n := by omega
      subst e
      rw [cntN_t hr, cntN_f hp, cntN_congr (fun i hi => he i (by omega))]
theorem lasN_none {P : Nat → Bool} : ∀ {n : Nat}, (∀ i, i < n → P i = false) → lasN P n = -1
  | 0, _ => rfl
  | n + 1, h => by rw [lasN_f (h n (Nat.lt_succ_self n))]; exact lasN_none (fun i hi => h i (Nat.lt_succ_of_lt hi))
theorem lasN_congr {P R : Nat → Bool} : ∀ {n : Nat}, (∀ i, i < n → P i = R i) → lasN P n = lasN R n
  | 0, _ => rfl
  | n + 1, h => by
    unfold lasN
    rw [lasN_congr (fun i hi => h i (Nat.lt_succ_of_lt hi)), h n (Nat.lt_succ_self n)]
theorem lasN_cases {P : Nat → Bool} : ∀ (n : Nat), (lasN P n = -1 ∧ ∀ i, i < n → P i = false) ∨ ∃ j, j < n ∧ P j = true ∧ lasN P n = nI j
  | 0 => Or.inl ⟨rfl, fun i h => absurd h (Nat.not_lt_zero i)⟩
  | n + 1 => by
    by_cases hp : P n = true
    · exact Or.inr ⟨n, Nat.lt_succ_self n, hp, lasN_t hp⟩
    · have hp' : P n = false := by simpa using hp
      rw [lasN_f hp']
      rcases lasN_cases (P := P) n with ⟨h1, h2⟩ | ⟨j, h1, h2, h3⟩
      · refine Or.inl ⟨h1, fun i hi => ?_⟩
        rcases Nat.lt_or_ge i n with q | q
        · exact h2 i q
        · rw [show i = n by omega]; exact hp'
      · exact Or.inr ⟨j, Nat.lt_succ_of_lt h1, h2, h3⟩
theorem lasN_neg {P : Nat → Bool} {n : Nat} (hn : n ≤ 2 ^ 31) : (0 ≤ lasN P n) = (anyN P n = true) := by
  apply propext
  rcases lasN_cases (P := P) n with ⟨h1, h2⟩ | ⟨j, h1, h2, h3⟩
  · rw [h1]
    refine ⟨fun h => absurd h (by decide), fun h => ?_⟩
    obtain ⟨i, hi, hp⟩ := anyN_on h
    rw [h2 i hi] at hp; cases hp
  · rw [h3]
    exact ⟨fun _ => anyN_hit h2 h1, fun _ => nI_pos' (by omega)⟩
theorem lt0_ge {x : Int32} : (x < 0) = ¬ (0 ≤ x) := by
  apply propext
  exact ⟨fun h q => absurd (Int32.lt_of_lt_of_le h q) (fun z => Int32.lt_irrefl z), fun h => Int32.not_le.mp h⟩
theorem pickN_congr {P R : Nat → Bool} {x : Int32} : ∀ {n : Nat}, (∀ i, i < n → P i = R i) → pickN P x n = pickN R x n
  | 0, _ => rfl
  | n + 1, h => by
    unfold pickN
    rw [pickN_congr (fun i hi => h i (Nat.lt_succ_of_lt hi)), h n (Nat.lt_succ_self n), cntN_congr (fun i hi => h i (Nat.lt_succ_of_lt hi))]
theorem pickN_low {P : Nat → Bool} {m : Nat} (hm : m < 2 ^ 31) : ∀ {n : Nat}, cntN P n ≤ m → pickN P (nI m) n = -1
  | 0, _ => rfl
  | n + 1, h => by
    by_cases hp : P n = true
    · rw [cntN_t hp] at h
      exact pickN_pass (pickN_low hm (by omega)) (fun q => by have := (nI_eq (by omega) hm).mp q; omega)
    · have hp' : P n = false := by simpa using hp
      rw [cntN_f hp'] at h
      exact pickN_miss (pickN_low hm h) hp'
theorem pickN_neg {P : Nat → Bool} {x : Int32} (hx : x < 0) : ∀ {n : Nat}, n < 2 ^ 31 → pickN P x n = -1
  | 0, _ => rfl
  | n + 1, hn => pickN_pass (pickN_neg hx (by omega)) (fun q => by
      have := cntN_le P n
      exact nI_pos (n := cntN P n) (by omega) (by rw [q]; exact hx))
theorem pickN_at {P : Nat → Bool} {m n : Nat} (hn : n < 2 ^ 31) (h : m < cntN P n) : ∃ i, i < n ∧ P i = true ∧ cntN P i = m ∧ pickN P (nI m) n = nI i := by
  obtain ⟨a, b, c⟩ := lnAt_ok h
  have := cntN_le P n
  exact ⟨lnAt P m n, a, b, c, pickN_hit (by omega) (pickN_low (by omega) (by omega)) b (by rw [c]) a⟩
theorem pickN_m1 {P : Nat → Bool} {m n : Nat} (hn : n < 2 ^ 31) (hm : m < 2 ^ 31) : (pickN P (nI m) n = -1) = (cntN P n ≤ m) := by
  apply propext
  refine ⟨fun h => Nat.not_lt.mp fun q => ?_, fun h => pickN_low hm h⟩
  obtain ⟨i, hi, -, -, e⟩ := pickN_at hn q
  rw [e] at h
  exact nI_nm1 (by omega) h
theorem cnt_uniq {P : Nat → Bool} {i j : Nat} (hi : P i = true) (hj : P j = true) (h : cntN P i = cntN P j) : i = j := by
  rcases Nat.lt_trichotomy i j with q | q | q
  · have := cntN_lt q hi; omega
  · exact q
  · have := cntN_lt q hj; omega
/-! sums -/
def natS (a : Nat → Nat) : Nat → Nat
  | 0 => 0
  | n + 1 => natS a n + a n
theorem sumN_nat {f : Nat → Int32} {a : Nat → Nat} : ∀ {n : Nat}, (∀ i, i < n → f i = nI (a i)) → sumN f n = nI (natS a n)
  | 0, _ => nI_0.symm
  | n + 1, h => by
    show sumN f n + f n = nI (natS a n + a n)
    rw [sumN_nat (fun i hi => h i (Nat.lt_succ_of_lt hi)), h n (Nat.lt_succ_self n), nI_add]
theorem natS_congr {a b : Nat → Nat} : ∀ {n : Nat}, (∀ i, i < n → a i = b i) → natS a n = natS b n
  | 0, _ => rfl
  | n + 1, h => by
    unfold natS
    rw [natS_congr (fun i hi => h i (Nat.lt_succ_of_lt hi)), h n (Nat.lt_succ_self n)]
theorem natS_le {a b : Nat → Nat} : ∀ {n : Nat}, (∀ i, i < n → a i ≤ b i) → natS a n ≤ natS b n
  | 0, _ => Nat.le_refl _
  | n + 1, h => by
    have h1 := natS_le (fun i hi => h i (Nat.lt_succ_of_lt hi))
    have h2 := h n (Nat.lt_succ_self n)
    show natS a n + a n ≤ natS b n + b n
    omega
theorem natS_const {a : Nat → Nat} {c : Nat} : ∀ {n : Nat}, (∀ i, i < n → a i ≤ c) → natS a n ≤ c * n
  | 0, _ => Nat.zero_le _
  | n + 1, h => by
    have h1 := natS_const (fun i hi => h i (Nat.lt_succ_of_lt hi))
    have h2 := h n (Nat.lt_succ_self n)
    show natS a n + a n ≤ c * (n + 1)
    rw [Nat.mul_succ]
    omega
theorem natS_zero {a : Nat → Nat} : ∀ {n : Nat}, (∀ i, i < n → a i = 0) → natS a n = 0
  | 0, _ => rfl
  | n + 1, h => by
    show natS a n + a n = 0
    rw [natS_zero (fun i hi => h i (Nat.lt_succ_of_lt hi)), h n (Nat.lt_succ_self n)]
theorem sumN_zero {f : Nat → Int32} : ∀ {n : Nat}, (∀ i, i < n → f i = 0) → sumN f n = 0
  | 0, _ => rfl
  | n + 1, h => by
    show sumN f n + f n = 0
    rw [sumN_zero (fun i hi => h i (Nat.lt_succ_of_lt hi)), h n (Nat.lt_succ_self n)]
    rfl
theorem i32_ring (a b c d : Int32) : a + (c - d) + b = a + b + (c - d) := by
  apply Int32.toBitVec_inj.mp
  simp only [Int32.toBitVec_sub, Int32.toBitVec_add]
  bv_omega
theorem i32_ring2 (a c d : Int32) : a + c = a + d + (c - d) := by
  apply Int32.toBitVec_inj.mp
  simp only [Int32.toBitVec_sub, Int32.toBitVec_add]
  bv_omega
theorem sumN_upd {f f' : Nat → Int32} {k : Nat} (he : ∀ i, i ≠ k → f' i = f i) : ∀ {n : Nat}, k < n → sumN f' n = sumN f n + (f' k - f k)
  | 0, h => absurd h (Nat.not_lt_zero _)
  | n + 1, h => by
    show sumN f' n + f' n = sumN f n + f n + (f' k - f k)
    rcases Nat.lt_or_ge k n with q | q
    · rw [sumN_upd he q, he n (by omega), i32_ring]
    · have e : k = n := by omega
      subst e
      rw [sumN_congr (f := f') (g := f) (fun i hi => he i (by omega))]
      exact i32_ring2 _ _ _
/-! arrays -/
theorem up_s (g : Nat → Nat → Int32) (a k : Nat) (x : Int32) : up g a k x a k = x := by
  show (if a = a then upd (g a) k x else g a) k = x
  rw [if_pos rfl]; exact pk_us
theorem up_n {g : Nat → Nat → Int32} {a k i : Nat} {x : Int32} (h : i ≠ k) : up g a k x a i = g a i := by
  show (if a = a then upd (g a) k x else g a) i = g a i
  rw [if_pos rfl]; exact pk_un h
theorem up_o {g : Nat → Nat → Int32} {a k j : Nat} {x : Int32} (h : j ≠ a) : up g a k x j = g j := if_neg h
theorem up_self (g : Nat → Nat → Int32) (a k : Nat) : up g a k (g a k) = g := by
  funext j
  by_cases h : j = a
  · subst h
    funext i
    by_cases q : i = k
    · subst q; exact up_s _ _ _ _
    · exact up_n q
  · exact up_o h
theorem upd_s (v : Nat → Int32) (k : Nat) (x : Int32) : upd v k x k = x := pk_us
theorem upd_n {v : Nat → Int32} {k j : Nat} {x : Int32} (h : j ≠ k) : upd v k x j = v j := pk_un h
/-! ranges, on both sides -/
theorem isCall_eq (x : Int32) : isCallS x = inS x 0 3 := by
  unfold isCallS inS
  by_cases h : x < 0
  · rw [if_pos h, if_pos h]
  · rw [if_neg h, if_neg h]
    obtain ⟨j, hj, rfl⟩ := nI_of h
    by_cases q : 4 ≤ j
    · rw [if_pos (show (4 : Int32) ≤ nI j from nI_le (a := 4) q hj), if_pos (show (3 : Int32) < nI j from nI_lt (a := 3) (by omega) hj)]
    · rw [if_neg (show ¬ (4 : Int32) ≤ nI j from nI_ge (a := j) (b := 4) (by omega) (by decide)), if_neg (show ¬ (3 : Int32) < nI j from nI_nlt (a := 3) (b := j) (by omega) (by decide))]
theorem isHo_eq (x : Int32) : isHoS x = inS x 0 9 := by
  unfold isHoS inS
  by_cases h : x < 0
  · rw [if_pos h, if_pos h]
  · rw [if_neg h, if_neg h]
    obtain ⟨j, hj, rfl⟩ := nI_of h
    by_cases q : 10 ≤ j
    · rw [if_pos (show (10 : Int32) ≤ nI j from nI_le (a := 10) q hj), if_pos (show (9 : Int32) < nI j from nI_lt (a := 9) (by omega) hj)]
    · rw [if_neg (show ¬ (10 : Int32) ≤ nI j from nI_ge (a := j) (b := 10) (by omega) (by decide)), if_neg (show ¬ (9 : Int32) < nI j from nI_nlt (a := 9) (b := j) (by omega) (by decide))]
theorem isNum_eq (x : Int32) : isNumS x = inS x 0 99999999 := rfl
theorem isWt_eq (x : Int32) : isWtS x = inS x 0 1000000 := rfl
theorem inS_ix {x : Int32} {M : Nat} (hM : M < 2 ^ 31) (h : inS x 0 (nI M) = true) : ∃ k, k ≤ M ∧ x = nI k := by
  unfold inS at h
  split at h
  · cases h
  · rename_i h1
    split at h
    · cases h
    · rename_i h2
      obtain ⟨j, hj, rfl⟩ := nI_of h1
      exact ⟨j, Nat.not_lt.mp fun q => h2 (nI_lt q hj), rfl⟩
/-! alike -/
theorem likL_eq : ∀ (f df : Nat) (ex : Bool) (a : Nat), likL f df ex a a = likE df ex
  | 0, _, _, _ => rfl
  | f + 1, df, ex, a => by
    show likL f (if a % 10 = a % 10 then df else df + 1) (if ex = true then true else if a % 10 = a % 10 then false else _) (a / 10) (a / 10) = likE df ex
    rw [if_pos rfl, if_pos rfl, likL_eq f]
    cases ex <;> rfl
theorem likE_3 {df : Nat} (h : 3 ≤ df) (ex : Bool) : likE df ex = false := by
  unfold likE
  rw [if_neg (by omega), if_neg (by omega)]
theorem likL_3 : ∀ (f df : Nat) (ex : Bool) (a b : Nat), 3 ≤ df → likL f df ex a b = false
  | 0, df, ex, _, _, h => likE_3 h ex
  | f + 1, df, ex, a, b, h => by
    show likL f (if a % 10 = b % 10 then df else df + 1) _ (a / 10) (b / 10) = false
    exact likL_3 f _ _ _ _ (by split <;> omega)
theorem likL_2 : ∀ (f : Nat) (ex : Bool) (a b : Nat), a < 10 ^ f → b < 10 ^ f → a ≠ b → likL f 2 ex a b = false
  | 0, ex, a, b, ha, hb, h => absurd (show a = b by simp at ha hb; omega) h
  | f + 1, ex, a, b, ha, hb, h => by
    show likL f (if a % 10 = b % 10 then 2 else 2 + 1) _ (a / 10) (b / 10) = false
    rw [Nat.pow_succ] at ha hb
    by_cases q : a % 10 = b % 10
    · rw [if_pos q]
      exact likL_2 f _ _ _ (by omega) (by omega) (by omega)
    · rw [if_neg q]
      exact likL_3 f _ _ _ _ (by omega)
theorem likL_1 : ∀ (f : Nat) (a b : Nat), a < 10 ^ f → b < 10 ^ f → a ≠ b → likL f 1 false a b = false
  | 0, a, b, ha, hb, h => absurd (show a = b by simp at ha hb; omega) h
  | f + 1, a, b, ha, hb, h => by
    show likL f (if a % 10 = b % 10 then 1 else 1 + 1) (if false = true then true else if a % 10 = b % 10 then false else if a % 10 = b / 10 % 10 then (if b % 10 = a / 10 % 10 then true else false) else false) (a / 10) (b / 10) = false
    rw [Nat.pow_succ] at ha hb
    rw [if_neg (show ¬ false = true by decide)]
    by_cases q : a % 10 = b % 10
    · rw [if_pos q, if_pos q]
      exact likL_1 f _ _ (by omega) (by omega) (by omega)
    · rw [if_neg q, if_neg q]
      by_cases q2 : a / 10 = b / 10
      · rw [q2, likL_eq]
        have q3 : ¬ (a % 10 = b / 10 % 10 ∧ b % 10 = b / 10 % 10) := by omega
        by_cases q4 : a % 10 = b / 10 % 10
        · rw [if_pos q4, if_neg (by omega)]; rfl
        · rw [if_neg q4]; rfl
      · exact likL_2 f _ _ _ (by omega) (by omega) q2
theorem alk_eq : ∀ (f a b : Nat), a < 10 ^ f → b < 10 ^ f → alkL f a b = likL f 0 false a b
  | 0, a, b, ha, hb => by
    have e1 : a = 0 := by simp at ha; omega
    have e2 : b = 0 := by simp at hb; omega
    subst e1; subst e2
    rfl
  | f + 1, a, b, ha, hb => by
    show (if a % 10 = b % 10 then alkL f (a / 10) (b / 10) else alkE a b) = likL f (if a % 10 = b % 10 then 0 else 0 + 1) (if false = true then true else if a % 10 = b % 10 then false else if a % 10 = b / 10 % 10 then (if b % 10 = a / 10 % 10 then true else false) else false) (a / 10) (b / 10)
    rw [Nat.pow_succ] at ha hb
    rw [if_neg (show ¬ false = true by decide)]
    by_cases q : a % 10 = b % 10
    · rw [if_pos q, if_pos q, if_pos q]
      exact alk_eq f _ _ (by omega) (by omega)
    · rw [if_neg q, if_neg q, if_neg q]
      unfold alkE
      by_cases q2 : a / 10 = b / 10
      · rw [if_pos q2, q2, likL_eq]
        by_cases q4 : a % 10 = b / 10 % 10
        · rw [if_pos q4, if_neg (by omega)]; rfl
        · rw [if_neg q4]; rfl
      · rw [if_neg q2]
        by_cases q4 : a % 10 = b / 10 % 10
        · rw [if_pos q4, if_pos q4]
          by_cases q5 : a / 10 % 10 = b % 10
          · rw [if_pos q5, if_pos q5.symm]
            obtain ⟨f, rfl⟩ : ∃ m, f = m + 1 := by
              rcases f with _ | m
              · exfalso; simp at ha hb; omega
              · exact ⟨m, rfl⟩
            rw [Nat.pow_succ] at ha hb
            show _ = likL f (if a / 10 % 10 = b / 10 % 10 then 1 else 1 + 1) (if true = true then true else _) (a / 10 / 10) (b / 10 / 10)
            rw [if_neg (show ¬ a / 10 % 10 = b / 10 % 10 by omega), if_pos (show true = true from rfl)]
            by_cases q6 : a / 100 = b / 100
            · rw [if_pos q6, show a / 10 / 10 = b / 10 / 10 by omega, likL_eq]; rfl
            · rw [if_neg q6, likL_2 f _ _ _ (by omega) (by omega) (by rw [Nat.div_div_eq_div_mul, Nat.div_div_eq_div_mul]; exact q6)]
          · rw [if_neg q5, if_neg (fun z => q5 z.symm), likL_1 f _ _ (by omega) (by omega) q2]
        · rw [if_neg q4, if_neg q4, likL_1 f _ _ (by omega) (by omega) q2]
