/-! amend, seen, split of the reference -/
def farK (h : Nat → Nat → Int32) (q : Nat) (w : Int32) : Int32 := if w ≤ h 7 q then h 7 q - w else w - h 7 q
def feeK (h : Nat → Nat → Int32) (u : Nat → Int32) (k q : Nat) (w : Int32) : Int32 := if farK h q w ≤ 0 then 0 else if (u 6 >>> (h 1 k &&& 31)) &&& 1 = 1 then 100 + farK h q w / 1000 else 0
def sumB (h : Nat → Nat → Int32) (nx : Nat) : Nat → Int32 → Int32 → Int32
  | 0, _, sm => sm
  | f + 1, pv, sm => if pv < 0 then sm else sumB h nx f (prvR h nx pv) (sm + h 11 (ix pv))
theorem sumB_neg {h : Nat → Nat → Int32} {nx f : Nat} {pv sm : Int32} (hf : 0 < f) (hn : pv < 0) : sumB h nx f pv sm = sm := by
  obtain ⟨q, rfl⟩ : ∃ q, f = q + 1 := ⟨f - 1, by omega⟩
  exact if_pos hn
def seeK (h : Nat → Nat → Int32) (o : Nat → Bool) (nb nx j : Nat) : Nat → Int32
  | 0 => h 9 j
  | 1 => h 10 j
  | 2 => h 11 j
  | 3 => h 12 j
  | 4 => nI (bofR o nb j)
  | 5 => bI (wnoR h o nb j)
  | 6 => h 13 j
  | 7 => h 14 j
  | 8 => nI (firR h nx 60 j)
  | _ => sumB h nx 61 (nI j) 0
def lnAt (P : Nat → Bool) (i : Nat) : Nat → Nat
  | 0 => 0
  | n + 1 => if P n = true then (if cntN P n = i then n else lnAt P i n) else lnAt P i n
theorem lnAt_ok {P : Nat → Bool} {i : Nat} : ∀ {n : Nat}, i < cntN P n → lnAt P i n < n ∧ P (lnAt P i n) = true ∧ cntN P (lnAt P i n) = i
  | 0, h => absurd h (Nat.not_lt_zero _)
  | n + 1, h => by
    show (if P n = true then (if cntN P n = i then n else lnAt P i n) else lnAt P i n) < n + 1 ∧ P (if P n = true then (if cntN P n = i then n else lnAt P i n) else lnAt P i n) = true ∧ cntN P (if P n = true then (if cntN P n = i then n else lnAt P i n) else lnAt P i n) = i
    by_cases hp : P n = true
    · rw [if_pos hp]
      by_cases hc : cntN P n = i
      · rw [if_pos hc]
        exact ⟨Nat.lt_succ_self n, hp, hc⟩
      · rw [if_neg hc]
        rw [cntN_t hp] at h
        obtain ⟨a, b, c⟩ := lnAt_ok (P := P) (i := i) (n := n) (by omega)
        exact ⟨by omega, b, c⟩
    · rw [if_neg hp]
      rw [cntN_f (by simpa using hp)] at h
      obtain ⟨a, b, c⟩ := lnAt_ok (P := P) (i := i) (n := n) h
      exact ⟨by omega, b, c⟩
/-- kilograms off the lines of x, the last ones first; i lines are left -/
def spK (x : Int32) (nl : Nat) : Nat → Int32 → (Nat → Nat → Int32) → Nat → Nat → Int32
  | 0, _, h => h
  | i + 1, lf, h => spK x nl i (lf - (if lf ≤ h 7 (lnAt (fun k => decide (h 6 k = x)) i nl) then lf else h 7 (lnAt (fun k => decide (h 6 k = x)) i nl))) (up h 7 (lnAt (fun k => decide (h 6 k = x)) i nl) (h 7 (lnAt (fun k => decide (h 6 k = x)) i nl) - (if lf ≤ h 7 (lnAt (fun k => decide (h 6 k = x)) i nl) then lf else h 7 (lnAt (fun k => decide (h 6 k = x)) i nl))))
theorem spK_at {x : Int32} {nl j : Nat} (h1 : j ≠ 7) : ∀ (i : Nat) (lf : Int32) (h : Nat → Nat → Int32), spK x nl i lf h j = h j
  | 0, _, _ => rfl
  | i + 1, lf, h => by
    show spK x nl i _ (up h 7 _ _) j = h j
    rw [spK_at h1]
    show (if j = 7 then _ else h j) = h j
    rw [if_neg h1]
def splK (h : Nat → Nat → Int32) (nb nl k : Nat) (w : Int32) (s9 : Nat) : Bool :=
  if wofR h nl (nI k) ≤ w then false else if 0 < nI (belR h nb (nI k)) then false else if 0 < h 5 k then false else if s9 = 100000000 then false else true
def spH (h : Nat → Nat → Int32) (nb nl k : Nat) (w : Int32) (s9 : Nat) : Nat → Nat → Int32 :=
  adlR (up (makR (spK (nI k) nl (lofR h nl (nI k)) w h) nb (h 1 k) (nI s9) (h 3 k)) 4 nb (h 4 k)) nl (nI nb) w 0
