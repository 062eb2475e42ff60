/-! Pure: bits -/
def zb (x : Int64) (b : Nat) : Bool := x.toBitVec.toNat.testBit b
theorem lgc0 {a b : Int64} : (lg_cmp a b = 0) = (a = b) := by
  apply propext
  refine ⟨fun h => ?_, fun h => by rw [h]; exact lgc b⟩
  unfold lg_cmp at h
  split at h
  · exact absurd h (by decide)
  · split at h
    · rename_i h2
      exact h2
    · exact absurd h (by decide)
theorem lN_z {m : Nat} (hm : m < 2 ^ 64) : (lN m = 0) = (m = 0) := by
  apply propext
  refine ⟨fun h => ?_, fun h => by rw [h]; rfl⟩
  have h1 := congrArg (fun x : Int64 => x.toBitVec.toNat) h
  simp only [wb_tn hm] at h1
  exact h1
theorem bitM_lN {b : Nat} (hb : b < 64) : bitM (nI b) = lN (2 ^ b) := by
  have := wb_shl 1 hb
  rw [Nat.one_mul] at this
  exact this
theorem p64 {b : Nat} (hb : b < 64) : 2 ^ b < 2 ^ 64 := wb_lt2 hb
theorem and_pow (n b : Nat) : (n &&& 2 ^ b = 0) = (n.testBit b = false) := by
  apply propext
  refine ⟨fun h => ?_, fun h => ?_⟩
  · have h1 := congrArg (fun x : Nat => x.testBit b) h
    simpa [Nat.testBit_and, Nat.testBit_two_pow] using h1
  · apply Nat.eq_of_testBit_eq
    intro i
    rw [Nat.testBit_and, Nat.testBit_two_pow, Nat.zero_testBit]
    by_cases q : b = i
    · rw [← q, h]; rfl
    · simp [q]
theorem onX_zb {z : Nat → Int64} {k b : Nat} (hb : b < 64) : onX z k (nI b) = zb (z k) b := by
  obtain ⟨n, hn, e⟩ := wb_of (z k)
  unfold onX zb
  rw [e, bitM_lN hb, wb_and hn (p64 hb), wb_tn hn]
  simp only [lgc0, lN_z (Nat.lt_of_le_of_lt Nat.and_le_left hn), and_pow]
  cases n.testBit b <;> simp
theorem zb_or {x : Int64} {b c : Nat} (hb : b < 64) : zb (x ||| bitM (nI b)) c = (zb x c || decide (b = c)) := by
  obtain ⟨n, hn, e⟩ := wb_of x
  unfold zb
  have h2 : n ||| 2 ^ b < 2 ^ 64 := Nat.or_lt_two_pow hn (p64 hb)
  rw [e, bitM_lN hb, wb_or hn (p64 hb), wb_tn h2, wb_tn hn, Nat.testBit_or, Nat.testBit_two_pow]
theorem zb_0 (b : Nat) : zb 0 b = false := by
  show (0 : Nat).testBit b = false
  exact Nat.zero_testBit b
theorem lN_pred {m : Nat} (h : 0 < m) : lN m - 1 = lN (m - 1) := by
  obtain ⟨d, rfl⟩ : ∃ d, m = d + 1 := ⟨m - 1, by omega⟩
  rw [Nat.add_sub_cancel]
  apply wb_inj
  rw [wb_tb]
  rw [Int64.toBitVec_sub, wb_tb]
  apply BitVec.eq_of_toNat_eq
  simp only [BitVec.toNat_sub, BitVec.toNat_ofNat]
  show (2 ^ 64 - 1 + (d + 1) % 2 ^ 64) % 2 ^ 64 = d % 2 ^ 64
  omega
theorem popc_mask {x : Int64} {b : Nat} (hb : b < 64) : popc (x &&& (bitM (nI b) - 1)) = cntN (zb x) b := by
  obtain ⟨n, hn, e⟩ := wb_of x
  unfold popc
  have hm : n % 2 ^ b < 2 ^ 64 := Nat.lt_of_le_of_lt (Nat.mod_le _ _) hn
  rw [e, bitM_lN hb, lN_pred (Nat.two_pow_pos b), wb_mask hn hb, wb_tn hm]
  rw [cntN_ext (m := b) (n := 64) (by omega) (fun i h1 h2 => by rw [Nat.testBit_mod_two_pow]; simp; omega)]
  refine cntN_congr (fun i hi => ?_)
  show (n % 2 ^ b).testBit i = zb (lN n) i
  unfold zb
  rw [Nat.testBit_mod_two_pow, wb_tn hn]
  simp [hi]
theorem popc_0 {x : Int64} : (lg_cmp x 0 = 0) = (popc x = 0) := by
  apply propext
  rw [lgc0]
  obtain ⟨n, hn, e⟩ := wb_of x
  refine ⟨fun h => ?_, fun h => ?_⟩
  · rw [h]
    exact cntN_zero (fun i _ => zb_0 i)
  · rw [e, lN_z hn]
    unfold popc at h
    rw [e, wb_tn hn] at h
    apply Nat.eq_of_testBit_eq
    intro i
    rw [Nat.zero_testBit]
    rcases Nat.lt_or_ge i 64 with q | q
    · cases hb : n.testBit i with
      | false => rfl
      | true => exact absurd (cntN_pos (P := fun i => n.testBit i) q hb) (by omega)
    · exact Nat.testBit_lt_two_pow (Nat.lt_of_lt_of_le hn (Nat.pow_le_pow_right (by decide) q))
/-! arrived calls: a number below 16, calls below 4 -/
theorem arr_eq : ∀ a, a < 16 → ∀ c, c < 4 → (decide (nI a &&& ((1 : Int32) <<< (nI c &&& 31)) = 0) = !decide ((nI a >>> (nI c &&& 31)) &&& 1 = 1)) := by decide +kernel
theorem arr_or : ∀ a, a < 16 → ∀ c, c < 4 → ∃ d, d < 16 ∧ nI a ||| ((1 : Int32) <<< (nI c &&& 31)) = nI d := by decide +kernel
