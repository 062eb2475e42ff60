theorem takN_at {k j : Nat} (h1 : j ≠ 11) (h2 : j ≠ 13) : ∀ (r : Nat) (lf : Int32) (g : Nat → Nat → Int32), takN k r lf g j = g j
  | 0, _, _ => rfl
  | r + 1, lf, g => by
    show (if lf ≤ 0 then g else if g 10 r = nI k then takN k r (lf - (if g 11 r < lf then g 11 r else lf)) (chgN g r (g 11 r - (if g 11 r < lf then g 11 r else lf)) k) else takN k r lf g) j = g j
    split
    · rfl
    · split
      · rw [takN_at h1 h2]
        show (if j = 13 then _ else (if j = 11 then _ else g j)) = g j
        rw [if_neg h2, if_neg h1]
      · exact takN_at h1 h2 r lf g
def spR (g : Nat → Nat → Int32) (nb k : Nat) (w : Int32) : Bool :=
  if g 13 k ≤ w then false else if 0 < nI (undB g nb (nI k)) then false else if ordB g k = true then false else if nfnL g nb k 60 1 = -1 then false else true
