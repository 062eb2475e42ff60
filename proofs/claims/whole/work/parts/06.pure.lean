/-! Own words: truth values as ints, loops over numbers -/
def bI (b : Bool) : Int32 := if b = true then 1 else 0
theorem bI_nar (b : Bool) : narrow .boolean (.int (bI b)) = .int (bI b) := by cases b <;> rfl
theorem bI_t {b : Bool} (h : ¬ bI b = 0) : b = true := by cases b with
  | true => rfl
  | false => exact absurd rfl h
theorem bI_f {b : Bool} (h : bI b = 0) : b = false := by cases b with
  | true => exact absurd h (by decide)
  | false => rfl
/-- x is one of 0 .. n - 1 -/
def inN (n : Nat) (x : Int32) : Bool := if x < 0 then false else if nI n ≤ x then false else true
theorem inN_ix {n : Nat} {x : Int32} (h : inN n x = true) (hn : n < 2 ^ 31) : ∃ k, k < n ∧ x = nI k := by
  unfold inN at h
  split at h
  · cases h
  · rename_i h1
    split at h
    · cases h
    · rename_i h2
      obtain ⟨j, hj, rfl⟩ := nI_of h1
      exact ⟨j, Nat.not_le.mp fun q => h2 ((nI_leI hn hj).mpr q), rfl⟩
theorem inN_nI {n k : Nat} (hk : k < n) (hn : n < 2 ^ 31) : inN n (nI k) = true := by
  unfold inN
  rw [if_neg (nI_pos (Nat.lt_trans hk hn)), if_neg (nI_ge hk hn)]
def anyN (P : Nat → Bool) : Nat → Bool
  | 0 => false
  | n + 1 => anyN P n || P n
theorem anyN_hit {P : Nat → Bool} {i : Nat} (h : P i = true) : ∀ {n : Nat}, i < n → anyN P n = true
  | 0, h0 => absurd h0 (Nat.not_lt_zero _)
  | n + 1, h0 => by
    unfold anyN
    rcases Nat.lt_or_ge i n with q | q
    · rw [anyN_hit h q]; rfl
    · have e : i = n := by omega
      subst e
      rw [h, Bool.or_true]
theorem anyN_off {P : Nat → Bool} : ∀ {n : Nat}, anyN P n = false → ∀ i, i < n → P i = false
  | 0, _, i, h => absurd h (Nat.not_lt_zero _)
  | n + 1, h0, i, h => by
    unfold anyN at h0
    rw [Bool.or_eq_false_iff] at h0
    rcases Nat.lt_or_ge i n with q | q
    · exact anyN_off h0.1 i q
    · have e : i = n := by omega
      subst e
      exact h0.2
theorem anyN_on {P : Nat → Bool} : ∀ {n : Nat}, anyN P n = true → ∃ i, i < n ∧ P i = true
  | 0, h => by cases h
  | n + 1, h => by
    unfold anyN at h
    rw [Bool.or_eq_true] at h
    rcases h with h | h
    · obtain ⟨i, h1, h2⟩ := anyN_on h
      exact ⟨i, Nat.lt_succ_of_lt h1, h2⟩
    · exact ⟨n, Nat.lt_succ_self n, h⟩
theorem anyN_congr {P R : Nat → Bool} : ∀ {n : Nat}, (∀ i, i < n → P i = R i) → anyN P n = anyN R n
  | 0, _ => rfl
  | n + 1, h => by
    unfold anyN
    rw [anyN_congr (fun i hi => h i (Nat.lt_succ_of_lt hi)), h n (Nat.lt_succ_self n)]
def cntN (P : Nat → Bool) : Nat → Nat
  | 0 => 0
  | n + 1 => if P n = true then cntN P n + 1 else cntN P n
theorem cntN_le (P : Nat → Bool) : ∀ n, cntN P n ≤ n
  | 0 => Nat.le_refl 0
  | n + 1 => by
    have := cntN_le P n
    unfold cntN
    split <;> omega
theorem cntN_t {P : Nat → Bool} {n : Nat} (h : P n = true) : cntN P (n + 1) = cntN P n + 1 := by
  show (if P n = true then cntN P n + 1 else cntN P n) = _
  rw [if_pos h]
theorem cntN_f {P : Nat → Bool} {n : Nat} (h : P n = false) : cntN P (n + 1) = cntN P n := by
  show (if P n = true then cntN P n + 1 else cntN P n) = _
  rw [if_neg (by rw [h]; decide)]
theorem cntN_congr {P R : Nat → Bool} : ∀ {n : Nat}, (∀ i, i < n → P i = R i) → cntN P n = cntN R n
  | 0, _ => rfl
  | n + 1, h => by
    unfold cntN
    rw [cntN_congr (fun i hi => h i (Nat.lt_succ_of_lt hi)), h n (Nat.lt_succ_self n)]
def sumN (f : Nat → Int32) : Nat → Int32
  | 0 => 0
  | n + 1 => sumN f n + f n
theorem sumN_congr {f g : Nat → Int32} : ∀ {n : Nat}, (∀ i, i < n → f i = g i) → sumN f n = sumN g n
  | 0, _ => rfl
  | n + 1, h => by
    unfold sumN
    rw [sumN_congr (fun i hi => h i (Nat.lt_succ_of_lt hi)), h n (Nat.lt_succ_self n)]
/-- the x-th number below n with P, or -1 -/
def pickN (P : Nat → Bool) (x : Int32) : Nat → Int32
  | 0 => -1
  | n + 1 => if pickN P x n = -1 then (if P n = true then (if nI (cntN P n) = x then nI n else -1) else -1) else pickN P x n
theorem pickN_miss {P : Nat → Bool} {x : Int32} {n : Nat} (h : pickN P x n = -1) (hp : P n = false) : pickN P x (n + 1) = -1 := by
  show (if pickN P x n = -1 then (if P n = true then (if nI (cntN P n) = x then nI n else -1) else -1) else pickN P x n) = -1
  rw [if_pos h, if_neg (by rw [hp]; decide)]
theorem pickN_pass {P : Nat → Bool} {x : Int32} {n : Nat} (h : pickN P x n = -1) (hx : ¬ nI (cntN P n) = x) : pickN P x (n + 1) = -1 := by
  show (if pickN P x n = -1 then (if P n = true then (if nI (cntN P n) = x then nI n else -1) else -1) else pickN P x n) = -1
  rw [if_pos h, if_neg hx]
  split <;> rfl
theorem nI_nm1 {n : Nat} (h : n < 2 ^ 31) : ¬ nI n = -1 := fun q => nI_pos h (by rw [q]; decide)
theorem pickN_hit {P : Nat → Bool} {x : Int32} {i : Nat} (hi : i < 2 ^ 31) (h : pickN P x i = -1) (hp : P i = true) (hx : nI (cntN P i) = x) : ∀ {n : Nat}, i < n → pickN P x n = nI i
  | 0, h0 => absurd h0 (Nat.not_lt_zero _)
  | n + 1, h0 => by
    show (if pickN P x n = -1 then (if P n = true then (if nI (cntN P n) = x then nI n else -1) else -1) else pickN P x n) = _
    rcases Nat.lt_or_ge i n with q | q
    · rw [pickN_hit hi h hp hx q, if_neg (nI_nm1 hi)]
    · have e : i = n := by omega
      subst e
      rw [if_pos h, if_pos hp, if_pos hx]
theorem wb_tb (n : Nat) : (lN n).toBitVec = BitVec.ofNat 64 n := rfl
theorem wb_inj {a b : Int64} (h : a.toBitVec = b.toBitVec) : a = b := Int64.toBitVec_inj.mp h
theorem wb_tn {n : Nat} (h : n < 2 ^ 64) : (lN n).toBitVec.toNat = n := by rw [wb_tb, BitVec.toNat_ofNat, Nat.mod_eq_of_lt h]
theorem wb_of (x : Int64) : ∃ n, n < 2 ^ 64 ∧ x = lN n := ⟨x.toBitVec.toNat, x.toBitVec.isLt, wb_inj (by rw [wb_tb]; simp)⟩
theorem wb_of32 (x : Int32) : ∃ n, n < 2 ^ 32 ∧ x = nI n := ⟨x.toBitVec.toNat, x.toBitVec.isLt, Int32.toBitVec_inj.mp (by show _ = BitVec.ofNat 32 _; simp)⟩
theorem wb_c : ∀ k, k < 64 → ((nI k).toInt64 &&& 63) = lN k := by decide +kernel
theorem wb_cu : ∀ k, k < 64 → ((nI k).toInt64.toUInt64 &&& Int64.toUInt64 63) = UInt64.ofNat k := by decide +kernel
theorem wb_sm : ∀ k, k < 64 → (BitVec.ofNat 64 k).smod 64 = BitVec.ofNat 64 k := by decide +kernel
theorem wb_pw {a b : Nat} (h : a ≤ b) : 2 ^ b = 2 ^ a * 2 ^ (b - a) := by rw [← Nat.pow_add]; congr 1; omega
theorem wb_lt2 {a b : Nat} (h : a < b) : 2 ^ a < 2 ^ b := Nat.pow_lt_pow_right (by decide) h
theorem wb_mod (n : Nat) : lN n = lN (n % 2 ^ 64) := wb_inj (by rw [wb_tb, wb_tb]; apply BitVec.eq_of_toNat_eq; rw [BitVec.toNat_ofNat, BitVec.toNat_ofNat, Nat.mod_mod])
theorem wb_shr {n k : Nat} (hn : n < 2 ^ 64) (hk : k < 64) : ((lN n).toUInt64 >>> ((nI k).toInt64.toUInt64 &&& Int64.toUInt64 63)).toInt64 = lN (n / 2 ^ k) := by
  rw [wb_cu k hk]
  apply wb_inj
  apply BitVec.eq_of_toNat_eq
  show ((lN n).toUInt64 >>> UInt64.ofNat k).toNat = (BitVec.ofNat 64 _).toNat
  have h1 : (UInt64.ofNat k).toNat = k := by
    show (BitVec.ofNat 64 k).toNat = k
    rw [BitVec.toNat_ofNat, Nat.mod_eq_of_lt (by omega)]
  have h2 : (lN n).toUInt64.toNat = n := wb_tn hn
  rw [UInt64.toNat_shiftRight, h1, h2, Nat.mod_eq_of_lt hk, Nat.shiftRight_eq_div_pow, BitVec.toNat_ofNat, Nat.mod_eq_of_lt (Nat.lt_of_le_of_lt (Nat.div_le_self _ _) hn)]
theorem wb_shl (n : Nat) {k : Nat} (hk : k < 64) : lN n <<< ((nI k).toInt64 &&& 63) = lN (n * 2 ^ k) := by
  rw [wb_c k hk]
  apply wb_inj
  rw [Int64.toBitVec_shiftLeft, wb_tb, wb_tb, wb_tb, wb_sm k hk]
  apply BitVec.eq_of_toNat_eq
  rw [BitVec.shiftLeft_eq', BitVec.toNat_shiftLeft, BitVec.toNat_ofNat, BitVec.toNat_ofNat, BitVec.toNat_ofNat, Nat.mod_eq_of_lt (show k < 2 ^ 64 by omega), Nat.shiftLeft_eq, Nat.mul_mod, Nat.mod_mod, ← Nat.mul_mod]
theorem wb_and {a b : Nat} (ha : a < 2 ^ 64) (hb : b < 2 ^ 64) : lN a &&& lN b = lN (a &&& b) := by
  apply wb_inj
  rw [Int64.toBitVec_and, wb_tb, wb_tb, wb_tb]
  apply BitVec.eq_of_toNat_eq
  rw [BitVec.toNat_and, BitVec.toNat_ofNat, BitVec.toNat_ofNat, BitVec.toNat_ofNat, Nat.mod_eq_of_lt ha, Nat.mod_eq_of_lt hb, Nat.mod_eq_of_lt (Nat.and_lt_two_pow _ hb)]
theorem wb_or {a b : Nat} (ha : a < 2 ^ 64) (hb : b < 2 ^ 64) : lN a ||| lN b = lN (a ||| b) := by
  apply wb_inj
  rw [Int64.toBitVec_or, wb_tb, wb_tb, wb_tb]
  apply BitVec.eq_of_toNat_eq
  rw [BitVec.toNat_or, BitVec.toNat_ofNat, BitVec.toNat_ofNat, BitVec.toNat_ofNat, Nat.mod_eq_of_lt ha, Nat.mod_eq_of_lt hb, Nat.mod_eq_of_lt (Nat.or_lt_two_pow ha hb)]
theorem wb_mask {n k : Nat} (hn : n < 2 ^ 64) (hk : k < 64) : lN n &&& lN (2 ^ k - 1) = lN (n % 2 ^ k) := by
  rw [wb_and hn (by have := wb_lt2 hk; omega), Nat.and_two_pow_sub_one_eq_mod]
theorem wb_a1 {n : Nat} (hn : n < 2 ^ 64) : lN n &&& 1 = lN (n % 2) := wb_mask (k := 1) hn (by decide)
theorem wb_bit {n k : Nat} (hn : n < 2 ^ 64) (hk : k < 64) : ((lN n).toUInt64 >>> ((nI k).toInt64.toUInt64 &&& Int64.toUInt64 63)).toInt64 &&& 1 = lN (n / 2 ^ k % 2) := by
  rw [wb_shr hn hk, wb_a1 (Nat.lt_of_le_of_lt (Nat.div_le_self _ _) hn)]
/-! Long.bitCount: bytes, and what the three masked steps do to each -/
def vb : List Nat → Nat
  | [] => 0
  | b :: t => 256 * vb t + b
theorem and256 (y m : Nat) {b c : Nat} (hb : b < 256) (hc : c < 256) : (256 * y + b) &&& (256 * m + c) = 256 * (y &&& m) + (b &&& c) := by
  have h1 : ((256 * y + b) &&& (256 * m + c)) / 2 ^ 8 = (256 * y + b) / 2 ^ 8 &&& (256 * m + c) / 2 ^ 8 := Nat.and_div_two_pow
  have h2 : ((256 * y + b) &&& (256 * m + c)) % 2 ^ 8 = (256 * y + b) % 2 ^ 8 &&& (256 * m + c) % 2 ^ 8 := Nat.and_mod_two_pow
  rw [show (256 * y + b) / 2 ^ 8 = y by omega, show (256 * m + c) / 2 ^ 8 = m by omega] at h1
  rw [show (256 * y + b) % 2 ^ 8 = b by omega, show (256 * m + c) % 2 ^ 8 = c by omega] at h2
  omega
def t1 (b : Nat) : Nat := b - ((b / 2) &&& 85)
def t2 (b : Nat) : Nat := (b &&& 51) + ((b / 4) &&& 51)
def t3 (b : Nat) : Nat := (b + b / 16) &&& 15
theorem t1_low : ∀ e, e < 2 → ∀ b, b < 256 → (128 * e + b / 2) &&& 85 = (b / 2) &&& 85 := by decide +kernel
theorem t2_low : ∀ e, e < 4 → ∀ b, b < 256 → (64 * e + b / 4) &&& 51 = (b / 4) &&& 51 := by decide +kernel
theorem t3_low : ∀ e, e < 5 → ∀ b, b < 69 → (b + 16 * e + b / 16) &&& 15 = (b + b / 16) &&& 15 := by decide +kernel
theorem t1_le : ∀ b, b < 256 → (b / 2) &&& 85 ≤ b := by decide +kernel
theorem t2_ok : ∀ b, b < 256 → t2 (t1 b) % 16 ≤ 4 ∧ t2 (t1 b) < 69 ∧ t1 b < 256 := by decide +kernel
theorem t3_ok : ∀ b, b < 256 → t3 (t2 (t1 b)) = cntN (fun i => b.testBit i) 8 ∧ t3 (t2 (t1 b)) ≤ 8 := by decide +kernel
theorem vb_s1 : ∀ (bs : List Nat), (∀ b ∈ bs, b < 256) → (vb bs / 2) &&& vb (bs.map fun _ => 85) ≤ vb bs ∧ vb bs - ((vb bs / 2) &&& vb (bs.map fun _ => 85)) = vb (bs.map t1)
  | [], _ => ⟨Nat.le_refl 0, rfl⟩
  | b :: t, h => by
    have hb : b < 256 := h b List.mem_cons_self
    obtain ⟨i1, i2⟩ := vb_s1 t (fun x hx => h x (List.mem_cons_of_mem _ hx))
    have e1 : vb (b :: t) / 2 = 256 * (vb t / 2) + (128 * (vb t % 2) + b / 2) := by
      show (256 * vb t + b) / 2 = _
      omega
    have e2 : (vb (b :: t) / 2) &&& vb ((b :: t).map fun _ => 85) = 256 * ((vb t / 2) &&& vb (t.map fun _ => 85)) + ((b / 2) &&& 85) := by
      rw [e1, ← t1_low (vb t % 2) (Nat.mod_lt _ (by decide)) b hb]
      exact and256 _ _ (by omega) (show (85 : Nat) < 256 by decide)
    have h1 := t1_le b hb
    rw [e2]
    constructor
    · show _ ≤ 256 * vb t + b
      omega
    · show 256 * vb t + b - _ = 256 * vb (t.map t1) + t1 b
      rw [← i2, show t1 b = b - ((b / 2) &&& 85) from rfl]
      omega
theorem vb_s2 : ∀ (bs : List Nat), (∀ b ∈ bs, b < 256) → (vb bs &&& vb (bs.map fun _ => 51)) + ((vb bs / 4) &&& vb (bs.map fun _ => 51)) = vb (bs.map t2)
  | [], _ => rfl
  | b :: t, h => by
    have hb : b < 256 := h b List.mem_cons_self
    have i2 := vb_s2 t (fun x hx => h x (List.mem_cons_of_mem _ hx))
    have e1 : vb (b :: t) / 4 = 256 * (vb t / 4) + (64 * (vb t % 4) + b / 4) := by
      show (256 * vb t + b) / 4 = _
      omega
    have e2 : (vb (b :: t) / 4) &&& vb ((b :: t).map fun _ => 51) = 256 * ((vb t / 4) &&& vb (t.map fun _ => 51)) + ((b / 4) &&& 51) := by
      rw [e1, ← t2_low (vb t % 4) (Nat.mod_lt _ (by decide)) b hb]
      exact and256 _ _ (by omega) (show (51 : Nat) < 256 by decide)
    have e3 : vb (b :: t) &&& vb ((b :: t).map fun _ => 51) = 256 * (vb t &&& vb (t.map fun _ => 51)) + (b &&& 51) := and256 _ _ hb (show (51 : Nat) < 256 by decide)
    rw [e2, e3]
    show _ = 256 * vb (t.map t2) + t2 b
    rw [← i2, show t2 b = (b &&& 51) + ((b / 4) &&& 51) from rfl]
    omega
theorem vb_low : ∀ (bs : List Nat), (∀ b ∈ bs, b % 16 ≤ 4 ∧ b < 69) → vb bs % 16 ≤ 4
  | [], _ => by decide
  | b :: t, h => by
    have hb := h b List.mem_cons_self
    show (256 * vb t + b) % 16 ≤ 4
    omega
theorem vb_s3 : ∀ (bs : List Nat), (∀ b ∈ bs, b % 16 ≤ 4 ∧ b < 69) → (vb bs + vb bs / 16) &&& vb (bs.map fun _ => 15) = vb (bs.map t3)
  | [], _ => rfl
  | b :: t, h => by
    have hb := h b List.mem_cons_self
    have ht : ∀ x ∈ t, x % 16 ≤ 4 ∧ x < 69 := fun x hx => h x (List.mem_cons_of_mem _ hx)
    have i2 := vb_s3 t ht
    have hl := vb_low t ht
    have e1 : vb (b :: t) + vb (b :: t) / 16 = 256 * (vb t + vb t / 16) + (b + 16 * (vb t % 16) + b / 16) := by
      show 256 * vb t + b + (256 * vb t + b) / 16 = _
      omega
    rw [e1]
    show _ = 256 * vb (t.map t3) + t3 b
    rw [← i2, show t3 b = (b + b / 16) &&& 15 from rfl, ← t3_low (vb t % 16) (by omega) b hb.2]
    exact and256 _ _ (by omega) (show (15 : Nat) < 256 by decide)
theorem cntN_add (P : Nat → Bool) (a : Nat) : ∀ n, cntN P (a + n) = cntN P a + cntN (fun i => P (a + i)) n
  | 0 => rfl
  | n + 1 => by
    have i := cntN_add P a n
    show (if P (a + n) = true then cntN P (a + n) + 1 else cntN P (a + n)) = cntN P a + (if P (a + n) = true then cntN (fun i => P (a + i)) n + 1 else cntN (fun i => P (a + i)) n)
    split <;> omega
theorem vb_bit {b t : Nat} (hb : b < 256) : (∀ i, i < 8 → (256 * t + b).testBit i = b.testBit i) ∧ ∀ i, (256 * t + b).testBit (8 + i) = t.testBit i := by
  constructor
  · intro i hi
    have h : (256 * t + b).testBit i = _ := Nat.testBit_two_pow_mul_add t (b := b) (i := 8) hb i
    rw [if_pos hi] at h
    exact h
  · intro i
    have h : (256 * t + b).testBit (8 + i) = _ := Nat.testBit_two_pow_mul_add t (b := b) (i := 8) hb (8 + i)
    rw [if_neg (by omega), Nat.add_sub_cancel_left] at h
    exact h
theorem vb_cnt : ∀ (bs : List Nat), (∀ b ∈ bs, b < 256) → cntN (fun i => (vb bs).testBit i) (8 * bs.length) = (bs.map fun b => cntN (fun i => b.testBit i) 8).sum
  | [], _ => rfl
  | b :: t, h => by
    have hb : b < 256 := h b List.mem_cons_self
    have i2 := vb_cnt t (fun x hx => h x (List.mem_cons_of_mem _ hx))
    obtain ⟨p1, p2⟩ := vb_bit (t := vb t) hb
    rw [show 8 * (b :: t).length = 8 + 8 * t.length by simp [List.length_cons]; omega, cntN_add]
    show _ = cntN (fun i => b.testBit i) 8 + (t.map fun b => cntN (fun i => b.testBit i) 8).sum
    rw [← i2]
    congr 1
    · exact cntN_congr p1
    · exact cntN_congr (fun i _ => p2 i)
def bc64 (n : Nat) : Nat :=
  let a1 := n - ((n / 2) &&& 6148914691236517205)
  let a2 := (a1 &&& 3689348814741910323) + ((a1 / 4) &&& 3689348814741910323)
  let a3 := (a2 + a2 / 16) &&& 1085102592571150095
  let a4 := a3 + a3 / 256
  let a5 := a4 + a4 / 65536
  let a6 := a5 + a5 / 4294967296
  a6 % 128
theorem bs_1 (d0 d1 d2 d3 d4 d5 d6 d7 : Nat) : d0 + 256 * d1 + 65536 * d2 + 16777216 * d3 + 4294967296 * d4 + 1099511627776 * d5 + 281474976710656 * d6 + 72057594037927936 * d7 = d0 + 256 * (d1 + 256 * d2 + 65536 * d3 + 16777216 * d4 + 4294967296 * d5 + 1099511627776 * d6 + 281474976710656 * d7) := by omega
theorem bs_2 (d0 d1 d2 d3 d4 d5 d6 d7 : Nat) : d0 + 256 * d1 + 65536 * d2 + 16777216 * d3 + 4294967296 * d4 + 1099511627776 * d5 + 281474976710656 * d6 + 72057594037927936 * d7 + (d1 + 256 * d2 + 65536 * d3 + 16777216 * d4 + 4294967296 * d5 + 1099511627776 * d6 + 281474976710656 * d7) = d0 + d1 + 256 * (d1 + d2) + 65536 * (d2 + d3 + 256 * (d3 + d4) + 65536 * (d4 + d5) + 16777216 * (d5 + d6) + 4294967296 * (d6 + d7) + 1099511627776 * d7) := by omega
theorem bs_3 (d0 d1 d2 d3 d4 d5 d6 d7 : Nat) : d0 + d1 + 256 * (d1 + d2) + 65536 * (d2 + d3 + 256 * (d3 + d4) + 65536 * (d4 + d5) + 16777216 * (d5 + d6) + 4294967296 * (d6 + d7) + 1099511627776 * d7) + (d2 + d3 + 256 * (d3 + d4) + 65536 * (d4 + d5) + 16777216 * (d5 + d6) + 4294967296 * (d6 + d7) + 1099511627776 * d7) = d0 + d1 + d2 + d3 + 256 * (d1 + d2 + d3 + d4) + 65536 * (d2 + d3 + d4 + d5) + 16777216 * (d3 + d4 + d5 + d6) + 4294967296 * (d4 + d5 + d6 + d7 + 256 * (d5 + d6 + d7) + 65536 * (d6 + d7) + 16777216 * d7) := by omega
theorem bs_4 (d0 d1 d2 d3 d4 d5 d6 d7 : Nat) : d0 + d1 + d2 + d3 + 256 * (d1 + d2 + d3 + d4) + 65536 * (d2 + d3 + d4 + d5) + 16777216 * (d3 + d4 + d5 + d6) + 4294967296 * (d4 + d5 + d6 + d7 + 256 * (d5 + d6 + d7) + 65536 * (d6 + d7) + 16777216 * d7) + (d4 + d5 + d6 + d7 + 256 * (d5 + d6 + d7) + 65536 * (d6 + d7) + 16777216 * d7) = d0 + (d1 + (d2 + (d3 + (d4 + (d5 + (d6 + (d7 + 0))))))) + 128 * (2 * (d1 + d2 + d3 + d4) + 512 * (d2 + d3 + d4 + d5) + 131072 * (d3 + d4 + d5 + d6) + 33554432 * (d4 + d5 + d6 + d7 + 256 * (d5 + d6 + d7) + 65536 * (d6 + d7) + 16777216 * d7) + (2 * (d5 + d6 + d7) + 512 * (d6 + d7) + 131072 * d7)) := by omega
theorem bs_5 (d0 d1 d2 : Nat) (h0 : d0 ≤ 8) (h1 : d1 ≤ 8) (h2 : d2 ≤ 8) : d0 + d1 + 256 * (d1 + d2) < 65536 := by omega
theorem bs_6 (d0 d1 d2 d3 d4 d5 d6 : Nat) (h0 : d0 ≤ 8) (h1 : d1 ≤ 8) (h2 : d2 ≤ 8) (h3 : d3 ≤ 8) (h4 : d4 ≤ 8) (h5 : d5 ≤ 8) (h6 : d6 ≤ 8) : d0 + d1 + d2 + d3 + 256 * (d1 + d2 + d3 + d4) + 65536 * (d2 + d3 + d4 + d5) + 16777216 * (d3 + d4 + d5 + d6) < 4294967296 := by omega
theorem bs_7 (d0 d1 d2 d3 d4 d5 d6 d7 : Nat) (h0 : d0 ≤ 8) (h1 : d1 ≤ 8) (h2 : d2 ≤ 8) (h3 : d3 ≤ 8) (h4 : d4 ≤ 8) (h5 : d5 ≤ 8) (h6 : d6 ≤ 8) (h7 : d7 ≤ 8) : d0 + (d1 + (d2 + (d3 + (d4 + (d5 + (d6 + (d7 + 0))))))) < 128 := by omega
theorem bs_8 (d0 d1 d2 d3 d4 d5 d6 d7 : Nat) : 256 * (256 * (256 * (256 * (256 * (256 * (256 * (256 * 0 + d7) + d6) + d5) + d4) + d3) + d2) + d1) + d0 = d0 + 256 * d1 + 65536 * d2 + 16777216 * d3 + 4294967296 * d4 + 1099511627776 * d5 + 281474976710656 * d6 + 72057594037927936 * d7 := by omega
theorem bs_d (a b k q : Nat) (hk : 0 < k) (h : a < k) (e : b = a + k * q) : b / k = q := by rw [e, Nat.add_mul_div_left _ _ hk, Nat.div_eq_of_lt h, Nat.zero_add]
theorem bc_sum (d0 d1 d2 d3 d4 d5 d6 d7 : Nat) (h0 : d0 ≤ 8) (h1 : d1 ≤ 8) (h2 : d2 ≤ 8) (h3 : d3 ≤ 8) (h4 : d4 ≤ 8) (h5 : d5 ≤ 8) (h6 : d6 ≤ 8) (h7 : d7 ≤ 8) (X Y Z : Nat) (hX : X = d0 + 256 * d1 + 65536 * d2 + 16777216 * d3 + 4294967296 * d4 + 1099511627776 * d5 + 281474976710656 * d6 + 72057594037927936 * d7) (hY : Y = X + X / 256) (hZ : Z = Y + Y / 65536) : (Z + Z / 4294967296) % 128 = d0 + (d1 + (d2 + (d3 + (d4 + (d5 + (d6 + (d7 + 0))))))) := by
  have f1 : X / 256 = d1 + 256 * d2 + 65536 * d3 + 16777216 * d4 + 4294967296 * d5 + 1099511627776 * d6 + 281474976710656 * d7 := bs_d d0 X 256 _ (by decide) (Nat.lt_of_le_of_lt h0 (by decide)) (hX.trans (bs_1 d0 d1 d2 d3 d4 d5 d6 d7))
  have hY2 : Y = d0 + d1 + 256 * (d1 + d2) + 65536 * (d2 + d3 + 256 * (d3 + d4) + 65536 * (d4 + d5) + 16777216 * (d5 + d6) + 4294967296 * (d6 + d7) + 1099511627776 * d7) := by rw [hY, f1, hX]; exact bs_2 d0 d1 d2 d3 d4 d5 d6 d7
  have f2 : Y / 65536 = d2 + d3 + 256 * (d3 + d4) + 65536 * (d4 + d5) + 16777216 * (d5 + d6) + 4294967296 * (d6 + d7) + 1099511627776 * d7 := bs_d _ Y 65536 _ (by decide) (bs_5 d0 d1 d2 h0 h1 h2) hY2
  have hZ2 : Z = d0 + d1 + d2 + d3 + 256 * (d1 + d2 + d3 + d4) + 65536 * (d2 + d3 + d4 + d5) + 16777216 * (d3 + d4 + d5 + d6) + 4294967296 * (d4 + d5 + d6 + d7 + 256 * (d5 + d6 + d7) + 65536 * (d6 + d7) + 16777216 * d7) := by rw [hZ, f2, hY2]; exact bs_3 d0 d1 d2 d3 d4 d5 d6 d7
  have f3 : Z / 4294967296 = d4 + d5 + d6 + d7 + 256 * (d5 + d6 + d7) + 65536 * (d6 + d7) + 16777216 * d7 := bs_d _ Z 4294967296 _ (by decide) (bs_6 d0 d1 d2 d3 d4 d5 d6 h0 h1 h2 h3 h4 h5 h6) hZ2
  rw [f3, hZ2, bs_4, Nat.add_mul_mod_self_left]
  exact Nat.mod_eq_of_lt (bs_7 d0 d1 d2 d3 d4 d5 d6 d7 h0 h1 h2 h3 h4 h5 h6 h7)
theorem bc64_eq (n : Nat) (hn : n < 2 ^ 64) : bc64 n = cntN (fun i => n.testBit i) 64 := by
  obtain ⟨bs, hbs⟩ : ∃ bs : List Nat, bs = [n % 256, n / 256 % 256, n / 65536 % 256, n / 16777216 % 256, n / 4294967296 % 256, n / 1099511627776 % 256, n / 281474976710656 % 256, n / 72057594037927936 % 256] := ⟨_, rfl⟩
  have hv : vb bs = n := by
    rw [hbs]
    simp only [vb]
    omega
  have hb : ∀ b ∈ bs, b < 256 := by
    intro b h
    rw [hbs] at h
    simp only [List.mem_cons, List.not_mem_nil, or_false] at h
    omega
  have hm1 : vb (bs.map fun _ => 85) = 6148914691236517205 := by rw [hbs]; simp only [List.map_cons, List.map_nil, vb]
  have hm2 : vb ((bs.map t1).map fun _ => 51) = 3689348814741910323 := by rw [hbs]; simp only [List.map_cons, List.map_nil, vb]
  have hm3 : vb (((bs.map t1).map t2).map fun _ => 15) = 1085102592571150095 := by rw [hbs]; simp only [List.map_cons, List.map_nil, vb]
  have s1 := (vb_s1 bs hb).2
  have hb1 : ∀ b ∈ bs.map t1, b < 256 := by
    intro b h
    obtain ⟨x, hx, rfl⟩ := List.mem_map.mp h
    exact (t2_ok x (hb x hx)).2.2
  have s2 := vb_s2 (bs.map t1) hb1
  have hb2 : ∀ b ∈ (bs.map t1).map t2, b % 16 ≤ 4 ∧ b < 69 := by
    intro b h
    obtain ⟨y, hy, rfl⟩ := List.mem_map.mp h
    obtain ⟨x, hx, rfl⟩ := List.mem_map.mp hy
    exact ⟨(t2_ok x (hb x hx)).1, (t2_ok x (hb x hx)).2.1⟩
  have s3 := vb_s3 ((bs.map t1).map t2) hb2
  rw [hm1, hv] at s1
  rw [hm2] at s2
  rw [hm3] at s3
  have hc := vb_cnt bs hb
  rw [hv, show 8 * bs.length = 64 by rw [hbs]; rfl] at hc
  have hs : (bs.map fun b => cntN (fun i => b.testBit i) 8) = ((bs.map t1).map t2).map t3 := by
    rw [List.map_map, List.map_map]
    exact List.map_congr_left (fun x hx => ((t3_ok x (hb x hx)).1).symm)
  rw [hs] at hc
  have hle : ∀ b ∈ ((bs.map t1).map t2).map t3, b ≤ 8 := by
    intro b h
    obtain ⟨y, hy, rfl⟩ := List.mem_map.mp h
    obtain ⟨z, hz, rfl⟩ := List.mem_map.mp hy
    obtain ⟨x, hx, rfl⟩ := List.mem_map.mp hz
    exact (t3_ok x (hb x hx)).2
  rw [hc]
  unfold bc64
  simp only [s1, s2, s3]
  rw [hbs] at hle ⊢
  simp only [List.map_cons, List.map_nil, List.mem_cons, List.not_mem_nil, or_false, forall_eq_or_imp, forall_eq] at hle
  simp only [List.map_cons, List.map_nil, vb, List.sum_cons, List.sum_nil]
  obtain ⟨h0, h1, h2, h3, h4, h5, h6, h7⟩ := hle
  generalize t3 (t2 (t1 (n % 256))) = d0 at *
  generalize t3 (t2 (t1 (n / 256 % 256))) = d1 at *
  generalize t3 (t2 (t1 (n / 65536 % 256))) = d2 at *
  generalize t3 (t2 (t1 (n / 16777216 % 256))) = d3 at *
  generalize t3 (t2 (t1 (n / 4294967296 % 256))) = d4 at *
  generalize t3 (t2 (t1 (n / 1099511627776 % 256))) = d5 at *
  generalize t3 (t2 (t1 (n / 281474976710656 % 256))) = d6 at *
  generalize t3 (t2 (t1 (n / 72057594037927936 % 256))) = d7 at *
  clear hbs hv hb hm1 hm2 hm3 s1 s2 s3 hb1 hb2 hc hs
  exact bc_sum d0 d1 d2 d3 d4 d5 d6 d7 h0 h1 h2 h3 h4 h5 h6 h7 _ _ _ (bs_8 d0 d1 d2 d3 d4 d5 d6 d7) rfl rfl
theorem bc_eq (x y1 y2 y3 y4 y5 y6 : Int64)
    (e1 : y1 = x - ((x.toUInt64 >>> ((1 : Int32).toInt64.toUInt64 &&& Int64.toUInt64 63)).toInt64 &&& 6148914691236517205))
    (e2 : y2 = (y1 &&& 3689348814741910323) + ((y1.toUInt64 >>> ((2 : Int32).toInt64.toUInt64 &&& Int64.toUInt64 63)).toInt64 &&& 3689348814741910323))
    (e3 : y3 = (y2 + (y2.toUInt64 >>> ((4 : Int32).toInt64.toUInt64 &&& Int64.toUInt64 63)).toInt64) &&& 1085102592571150095)
    (e4 : y4 = y3 + (y3.toUInt64 >>> ((8 : Int32).toInt64.toUInt64 &&& Int64.toUInt64 63)).toInt64)
    (e5 : y5 = y4 + (y4.toUInt64 >>> ((16 : Int32).toInt64.toUInt64 &&& Int64.toUInt64 63)).toInt64)
    (e6 : y6 = y5 + (y5.toUInt64 >>> ((32 : Int32).toInt64.toUInt64 &&& Int64.toUInt64 63)).toInt64) :
    y6.toInt32 &&& 127 = nI (cntN (fun i => x.toBitVec.toNat.testBit i) 64) := by
  obtain ⟨n, hn, rfl⟩ := wb_of x
  obtain ⟨a1, h1⟩ : ∃ a1, a1 = n - ((n / 2) &&& 6148914691236517205) := ⟨_, rfl⟩
  obtain ⟨a2, h2⟩ : ∃ a2, a2 = (a1 &&& 3689348814741910323) + ((a1 / 4) &&& 3689348814741910323) := ⟨_, rfl⟩
  obtain ⟨a3, h3⟩ : ∃ a3, a3 = (a2 + a2 / 16) &&& 1085102592571150095 := ⟨_, rfl⟩
  obtain ⟨a4, h4⟩ : ∃ a4, a4 = a3 + a3 / 256 := ⟨_, rfl⟩
  obtain ⟨a5, h5⟩ : ∃ a5, a5 = a4 + a4 / 65536 := ⟨_, rfl⟩
  obtain ⟨a6, h6⟩ : ∃ a6, a6 = a5 + a5 / 4294967296 := ⟨_, rfl⟩
  have q1 : (n / 2) &&& 6148914691236517205 ≤ n / 2 := Nat.and_le_left
  have q2 : a1 &&& 3689348814741910323 ≤ 3689348814741910323 := Nat.and_le_right
  have q3 : (a1 / 4) &&& 3689348814741910323 ≤ 3689348814741910323 := Nat.and_le_right
  have q4 : a3 ≤ 1085102592571150095 := by rw [h3]; exact Nat.and_le_right
  have hp : (2 : Nat) ^ 64 = 18446744073709551616 := by decide
  rw [hp] at hn
  have s1 : ((lN n).toUInt64 >>> ((1 : Int32).toInt64.toUInt64 &&& Int64.toUInt64 63)).toInt64 = lN (n / 2) := wb_shr (k := 1) (by rw [hp]; omega) (by decide)
  have t1 : lN (n / 2) &&& 6148914691236517205 = lN ((n / 2) &&& 6148914691236517205) := wb_and (b := 6148914691236517205) (by rw [hp]; omega) (by decide)
  have d1 : y1 = lN a1 := by rw [e1, s1, t1, lN_sub (by omega), ← h1]
  have s2 : ((lN a1).toUInt64 >>> ((2 : Int32).toInt64.toUInt64 &&& Int64.toUInt64 63)).toInt64 = lN (a1 / 4) := wb_shr (k := 2) (by rw [hp]; omega) (by decide)
  have t2 : lN (a1 / 4) &&& 3689348814741910323 = lN ((a1 / 4) &&& 3689348814741910323) := wb_and (b := 3689348814741910323) (by rw [hp]; omega) (by decide)
  have t2' : lN a1 &&& 3689348814741910323 = lN (a1 &&& 3689348814741910323) := wb_and (b := 3689348814741910323) (by rw [hp]; omega) (by decide)
  have d2 : y2 = lN a2 := by rw [e2, d1, s2, t2, t2', lN_add, ← h2]
  have s3 : ((lN a2).toUInt64 >>> ((4 : Int32).toInt64.toUInt64 &&& Int64.toUInt64 63)).toInt64 = lN (a2 / 16) := wb_shr (k := 4) (by rw [hp]; omega) (by decide)
  have t3 : lN (a2 + a2 / 16) &&& 1085102592571150095 = lN ((a2 + a2 / 16) &&& 1085102592571150095) := wb_and (b := 1085102592571150095) (by rw [hp]; omega) (by decide)
  have d3 : y3 = lN a3 := by rw [e3, d2, s3, lN_add, t3, ← h3]
  have s4 : ((lN a3).toUInt64 >>> ((8 : Int32).toInt64.toUInt64 &&& Int64.toUInt64 63)).toInt64 = lN (a3 / 256) := wb_shr (k := 8) (by rw [hp]; omega) (by decide)
  have d4 : y4 = lN a4 := by rw [e4, d3, s4, lN_add, ← h4]
  have s5 : ((lN a4).toUInt64 >>> ((16 : Int32).toInt64.toUInt64 &&& Int64.toUInt64 63)).toInt64 = lN (a4 / 65536) := wb_shr (k := 16) (by rw [hp]; omega) (by decide)
  have d5 : y5 = lN a5 := by rw [e5, d4, s5, lN_add, ← h5]
  have s6 : ((lN a5).toUInt64 >>> ((32 : Int32).toInt64.toUInt64 &&& Int64.toUInt64 63)).toInt64 = lN (a5 / 4294967296) := wb_shr (k := 32) (by rw [hp]; omega) (by decide)
  have d6 : y6 = lN a6 := by rw [e6, d5, s6, lN_add, ← h6]
  have hbc : a6 % 128 = bc64 n := by
    unfold bc64
    simp only []
    rw [← h1, ← h2, ← h3, ← h4, ← h5, ← h6]
  have hand : nI a6 &&& 127 = nI (a6 % 128) := by
    rw [pk_and (nI a6) 7 (m := 127) (by decide)]
    have e9 : (nI a6).toBitVec.toNat = a6 % 2 ^ 32 := rfl
    rw [e9, show (2 : Nat) ^ 32 = 4294967296 by decide, show (2 : Nat) ^ 7 = 128 by decide]
    congr 1
    omega
  rw [d6, lN_i, hand, hbc, bc64_eq n (by rw [hp]; exact hn), wb_tn (by rw [hp]; exact hn)]
