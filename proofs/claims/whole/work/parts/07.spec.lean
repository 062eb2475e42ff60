/-! The component's own words -/
def up (g : Nat → Nat → Int32) (a k : Nat) (x : Int32) : Nat → Nat → Int32 := fun j => if j = a then upd (g a) k x else g j
def ix (x : Int32) : Nat := x.toNatClampNeg
theorem ix_nI {k : Nat} (h : k < 2 ^ 31) : ix (nI k) = k := nI_clamp h
def isCallS (x : Int32) : Bool := if x < 0 then false else if 4 ≤ x then false else true
def isNumS (x : Int32) : Bool := if x < 0 then false else if 99999999 < x then false else true
def isWtS (x : Int32) : Bool := if x < 0 then false else if 1000000 < x then false else true
def isHoS (x : Int32) : Bool := if x < 0 then false else if 10 ≤ x then false else true
/-- areAlike, on numbers -/
def alkE (a b : Nat) : Bool := if a / 10 = b / 10 then true else if a % 10 = b / 10 % 10 then (if a / 10 % 10 = b % 10 then (if a / 100 = b / 100 then true else false) else false) else false
def alkL : Nat → Nat → Nat → Bool
  | 0, a, b => alkE a b
  | f + 1, a, b => if a % 10 = b % 10 then alkL f (a / 10) (b / 10) else alkE a b
def ordB (g : Nat → Nat → Int32) (k : Nat) : Bool := if g 8 k ≤ 0 then false else true
def takB (g : Nat → Nat → Int32) (nb : Nat) (c w : Int32) : Bool := anyN (fun k => decide (g 2 k = c) && decide (g 3 k = w)) nb
def takX (g : Nat → Nat → Int32) (nx : Nat) (c w : Int32) : Bool := anyN (fun k => decide (g 16 k = c) && decide (g 17 k = w)) nx
def msu (g : Nat → Nat → Int32) (nb : Nat) (c o : Int32) : Bool :=
  if o = -1 then true else if inN nb o = true then (if g 2 (ix o) = c then (if 4 ≤ g 5 (ix o) then false else if ordB g (ix o) = true then false else true) else false) else false
def addB (g : Nat → Nat → Int32) (nb : Nat) (a1 a2 a3 a4 : Int32) : Nat → Nat → Int32 :=
  up (up (up (up (up (up (up g 2 nb a1) 3 nb a2) 4 nb a3) 5 nb (if inN nb a3 = true then g 5 (ix a3) + 1 else 1)) 6 nb (if inN nb a3 = true then g 6 (ix a3) else nI nb)) 7 nb a4) 8 nb 0
def nfnL (g : Nat → Nat → Int32) (nb k : Nat) : Nat → Nat → Int32
  | 0, _ => -1
  | f + 1, j => if g 3 k + nI j ≤ 99999999 then (if takB g nb (g 2 k) (g 3 k + nI j) = true then nfnL g nb k f (j + 1) else g 3 k + nI j) else -1
def undB (g : Nat → Nat → Int32) (nb : Nat) (x : Int32) : Nat := cntN (fun k => decide (g 4 k = x)) nb
def addN (g : Nat → Nat → Int32) (nl k : Nat) (w q : Int32) : Nat → Nat → Int32 :=
  up (up (up (up (up g 10 nl (nI k)) 11 nl w) 13 k (g 13 k + w)) 14 k (g 14 k + q)) 12 k (g 12 k + 1)
def rowN (g : Nat → Nat → Int32) (nl : Nat) (x line : Int32) : Int32 := pickN (fun k => decide (g 10 k = x)) line nl
def chgN (g : Nat → Nat → Int32) (i : Nat) (nw : Int32) (j : Nat) : Nat → Nat → Int32 := up (up g 11 i nw) 13 j (g 13 j + (nw - g 11 i))
def takN (k : Nat) : Nat → Int32 → (Nat → Nat → Int32) → Nat → Nat → Int32
  | 0, _, g => g
  | r + 1, left, g => if left ≤ 0 then g else if g 10 r = nI k then takN k r (left - (if g 11 r < left then g 11 r else left)) (chgN g r (g 11 r - (if g 11 r < left then g 11 r else left)) k) else takN k r left g
def addX (g : Nat → Nat → Int32) (nx : Nat) (c n w : Int32) : Nat → Nat → Int32 :=
  up (up (up (up (up (up (up g 16 nx c) 17 nx n) 18 nx w) 19 nx (-1)) 21 nx (-1)) 22 nx (-1)) 23 nx (-1)
def bitM (x : Int32) : Int64 := (1 : Int64) <<< (x.toInt64 &&& 63)
def onX (z : Nat → Int64) (k : Nat) (x : Int32) : Bool := if lg_cmp (z k &&& bitM x) 0 = 0 then false else true
def popc (x : Int64) : Nat := cntN (fun i => x.toBitVec.toNat.testBit i) 64
def lanX (g : Nat → Nat → Int32) (k : Nat) : Bool := if g 19 k = -1 then false else true
def ordX (g : Nat → Nat → Int32) (k : Nat) : Bool := if g 21 k = -1 then false else true
def waiX (g : Nat → Nat → Int32) (z : Nat → Int64) (k : Nat) : Bool := if lanX g k = true then (if lg_cmp (z k) 0 = 0 then true else false) else false
def shaX (g : Nat → Nat → Int32) (z : Nat → Int64) (k : Nat) (x : Int32) : Int32 :=
  if nI (popc (z k)) = 0 then 0 else g 19 k / nI (popc (z k)) + (if g 19 k - g 19 k / nI (popc (z k)) * nI (popc (z k)) ≤ nI (popc (z k &&& (bitM x - 1))) then 0 else 1)
def lnoX (g : Nat → Nat → Int32) (z : Nat → Int64) (nx : Nat) (x : Int32) : Int32 := sumN (fun k => if onX z k x = true then (if lanX g k = true then shaX g z k x else 0) else 0) nx
def firL (g : Nat → Nat → Int32) (nx : Nat) : Nat → Nat → Nat
  | 0, f => f
  | n + 1, f => if inN nx (g 23 f) = true then firL g nx n (ix (g 23 f)) else f
def wsfL (g : Nat → Nat → Int32) (nx : Nat) : Nat → Nat → Int32 → Int32
  | 0, _, sm => sm
  | n + 1, f, sm => if inN nx (g 23 f) = true then wsfL g nx n (ix (g 23 f)) (sm + g 18 (ix (g 23 f))) else sm
def arrS (v : Nat → Int32) (x : Int32) : Bool := if v 0 &&& ((1 : Int32) <<< (x &&& 31)) = 0 then false else true
def difB (g : Nat → Nat → Int32) (nb k : Nat) : Int32 :=
  if cntN (fun o => decide (g 4 o = nI k)) nb = 0 then 0 else g 13 k - sumN (fun o => if g 4 o = nI k then g 13 o else 0) nb
def sodB (g : Nat → Nat → Int32) (nb : Nat) (x : Int32) : Bool := anyN (fun b => decide (g 6 b = x) && !decide (difB g nb b = 0)) nb
def mtdB (g : Nat → Nat → Int32) (nb : Nat) : Nat := cntN (fun b => decide (g 6 b = nI b) && sodB g nb (nI b)) nb
def rwI (r : Nat) : Int32 := nI r - 1
theorem rwI_dec (q : Nat) : nI q + Int32.ofInt (-1) = rwI q := by
  unfold rwI
  rw [Int32.sub_eq_add_neg]
  rfl
theorem rwI_s (q : Nat) : rwI (q + 1) = nI q := nI_pred q
theorem rwI_neg {r : Nat} (hr : r < 2 ^ 31) (h : rwI r < 0) : r = 0 := by
  rcases r with _ | r
  · rfl
  · rw [rwI_s] at h
    exact absurd h (nI_pos (by omega))
theorem rwI_pos {r : Nat} (h : ¬ rwI r < 0) : ∃ q, r = q + 1 := by
  rcases r with _ | r
  · exact absurd (by decide) h
  · exact ⟨r, rfl⟩
theorem pickN_some {P : Nat → Bool} {x : Int32} : ∀ {n : Nat}, ¬ pickN P x n = -1 → ∃ i, i < n ∧ P i = true ∧ nI (cntN P i) = x ∧ pickN P x n = nI i
  | 0, h => absurd rfl h
  | n + 1, h => by
    by_cases h1 : pickN P x n = -1
    · have h2 : pickN P x (n + 1) = (if P n = true then (if nI (cntN P n) = x then nI n else -1) else -1) := by
        show (if pickN P x n = -1 then (if P n = true then (if nI (cntN P n) = x then nI n else -1) else -1) else pickN P x n) = _
        rw [if_pos h1]
      rw [h2] at h ⊢
      by_cases h3 : P n = true
      · rw [if_pos h3] at h ⊢
        by_cases h4 : nI (cntN P n) = x
        · rw [if_pos h4]
          exact ⟨n, Nat.lt_succ_self n, h3, h4, rfl⟩
        · rw [if_neg h4] at h
          exact absurd rfl h
      · rw [if_neg h3] at h
        exact absurd rfl h
    · obtain ⟨i, a, b, c, d⟩ := pickN_some h1
      refine ⟨i, Nat.lt_succ_of_lt a, b, c, ?_⟩
      show (if pickN P x n = -1 then (if P n = true then (if nI (cntN P n) = x then nI n else -1) else -1) else pickN P x n) = _
      rw [if_neg h1, d]
theorem popc_le (x : Int64) : popc x ≤ 64 := cntN_le _ _
theorem firL_lt {g : Nat → Nat → Int32} {nx : Nat} (hn : nx ≤ 60) : ∀ (n f : Nat), f < 60 → firL g nx n f < 60
  | 0, f, h => h
  | n + 1, f, h => by
    show (if inN nx (g 23 f) = true then firL g nx n (ix (g 23 f)) else f) < 60
    split
    · rename_i h1
      obtain ⟨q, hq, e⟩ := inN_ix h1 (by omega)
      rw [e, ix_nI (by omega)]
      exact firL_lt hn n q (by omega)
    · exact h
/-! what the public methods answer and do -/
def onR (g : Nat → Nat → Int32) (z : Nat → Int64) (nb nx : Nat) (x y : Int32) : Bool :=
  if inN nx x = true then (if inN nb y = true then (if g 16 (ix x) = g 2 (ix y) then (if onX z (ix x) y = true then false else if 4 ≤ popc (z (ix x)) then false else if ordX g (ix x) = true then false else true) else false) else false) else false
def onZ (g : Nat → Nat → Int32) (z : Nat → Int64) (nb nx : Nat) (x y : Int32) : Nat → Int64 :=
  if onR g z nb nx x y = true then vp_updL z (ix x) (z (ix x) ||| bitM y) else z
def lanR (g : Nat → Nat → Int32) (nx : Nat) (x w : Int32) : Bool := if inN nx x = true then (if lanX g (ix x) = true then false else if isWtS w = true then true else false) else false
def lanG (g : Nat → Nat → Int32) (nx : Nat) (x w : Int32) : Nat → Nat → Int32 := if lanR g nx x w = true then up g 19 (ix x) w else g
def arrR (v : Nat → Int32) (x : Int32) : Bool := if isCallS x = true then (if arrS v x = true then false else true) else false
def arvV (v : Nat → Int32) (x : Int32) : Nat → Int32 := if arrR v x = true then upd v 0 (v 0 ||| ((1 : Int32) <<< (x &&& 31))) else v
def legR (g : Nat → Nat → Int32) (nx : Nat) (x y : Int32) : Bool :=
  if inN nx x = true then (if inN nx y = true then (if g 16 (ix x) = g 16 (ix y) then false else if g 22 (ix x) = -1 then (if g 23 (ix y) = -1 then (if firL g nx 60 (ix x) = ix y then false else true) else false) else false) else false) else false
def legG (g : Nat → Nat → Int32) (nx : Nat) (x y : Int32) : Nat → Nat → Int32 := if legR g nx x y = true then up (up g 22 (ix x) y) 23 (ix y) x else g
def cntS (g : Nat → Nat → Int32) (z : Nat → Int64) (v : Nat → Int32) (nb nl nx : Nat) : Nat → Int32
  | 0 => nI nb
  | 1 => nI nx
  | 2 => nI nl
  | 3 => v 1
  | 4 => nI (cntN (fun k => ordX g k) nx)
  | 5 => nI (cntN (fun k => lanX g k) nx)
  | 6 => nI (cntN (fun k => waiX g z k) nx)
  | 7 => v 0
  | _ => nI (mtdB g nb)
def bilR (g : Nat → Nat → Int32) (nb : Nat) (c n a : Int32) : Bool := if msu g nb c a = true then (if takB g nb c n = true then false else true) else false
def amdR (g : Nat → Nat → Int32) (v : Nat → Int32) (i k : Nat) (w : Int32) : Int32 :=
  if w - g 11 i = 0 then 0 else if arrS v (g 2 k) = true then 100 + (if 0 ≤ w - g 11 i then w - g 11 i else 0 - (w - g 11 i)) / 1000 else 0
def amdV (g : Nat → Nat → Int32) (v : Nat → Int32) (i k : Nat) (w : Int32) : Nat → Int32 :=
  if w - g 11 i = 0 then v else if arrS v (g 2 k) = true then upd v 1 (v 1 + (100 + (if 0 ≤ w - g 11 i then w - g 11 i else 0 - (w - g 11 i)) / 1000)) else v
def titR (g : Nat → Nat → Int32) (k : Nat) (f : Int32) : Bool := if g 7 k = f then (if ordB g k = true then false else true) else false
def ordR (g : Nat → Nat → Int32) (z : Nat → Int64) (k j : Nat) (h : Int32) : Bool :=
  if ordX g j = true then false else if onX z j (nI k) = true then (if lanX g j = true then (if g 7 k = h then true else false) else false) else false
def splR (g : Nat → Nat → Int32) (nb k : Nat) (w : Int32) : Bool :=
  if g 13 k ≤ w then false else if 0 < undB g nb (nI k) then false else if ordB g k = true then false else if nfnL g nb k 60 1 = -1 then false else true
def splG (g : Nat → Nat → Int32) (nb nl k : Nat) (w : Int32) : Nat → Nat → Int32 :=
  addN (addB (takN k nl w g) nb (g 2 k) (nfnL g nb k 60 1) (g 4 k) (g 7 k)) nl nb w 0
def looS (g : Nat → Nat → Int32) (z : Nat → Int64) (nb nx j : Nat) : Nat → Int32
  | 0 => g 2 j
  | 1 => g 3 j
  | 2 => g 4 j
  | 3 => g 5 j
  | 4 => g 12 j
  | 5 => g 13 j
  | 6 => g 14 j
  | 7 => difB g nb j
  | 8 => lnoX g z nx (nI j)
  | 9 => if g 13 j - lnoX g z nx (nI j) < 0 then 0 else g 13 j - lnoX g z nx (nI j)
  | 10 => if lnoX g z nx (nI j) - g 13 j < 0 then 0 else lnoX g z nx (nI j) - g 13 j
  | 11 => g 7 j
  | 12 => g 8 j
  | 13 => nI (undB g nb (nI j))
  | 14 => nI (cntN (fun k => onX z k (nI j)) nx)
  | _ => g 6 j
def seeS (g : Nat → Nat → Int32) (z : Nat → Int64) (nx j : Nat) : Nat → Int32
  | 0 => g 16 j
  | 1 => g 17 j
  | 2 => g 18 j
  | 3 => g 19 j
  | 4 => nI (popc (z j))
  | 5 => bI (waiX g z j)
  | 6 => g 21 j
  | 7 => g 22 j
  | 8 => nI (firL g nx 60 j)
  | 9 => wsfL g nx 60 j (g 18 j)
  | n + 10 => pickN (fun b => onX z j (nI b)) (nI n) 60
def likP (g : Nat → Nat → Int32) (c : Int32) (n0 : Nat) (b : Nat) : Bool := decide (g 2 b = c) && alkL 8 (ix (g 3 b)) n0
def wA (ad : Nat → Nat) (kd : Nat → ClassId) (g : Nat → Nat → Int32) (z : Nat → Int64) (v : Nat → Int32) : va_W := [(ad 0, .inr (0, [.ref (ad 1), .ref (ad 9), .ref (ad 15), .int (v 0), .int (v 1)])),
  (ad 1, .inr (1, [.int (v 2), .ref (ad 2), .ref (ad 3), .ref (ad 4), .ref (ad 5), .ref (ad 6), .ref (ad 7), .ref (ad 8)])),
  (ad 2, .inl (kd 2, 60, .inl (g 2))),
  (ad 3, .inl (kd 3, 60, .inl (g 3))),
  (ad 4, .inl (kd 4, 60, .inl (g 4))),
  (ad 5, .inl (kd 5, 60, .inl (g 5))),
  (ad 6, .inl (kd 6, 60, .inl (g 6))),
  (ad 7, .inl (kd 7, 60, .inl (g 7))),
  (ad 8, .inl (kd 8, 60, .inl (g 8))),
  (ad 9, .inr (2, [.int (v 3), .ref (ad 10), .ref (ad 11), .ref (ad 12), .ref (ad 13), .ref (ad 14)])),
  (ad 10, .inl (kd 10, 200, .inl (g 10))),
  (ad 11, .inl (kd 11, 200, .inl (g 11))),
  (ad 12, .inl (kd 12, 60, .inl (g 12))),
  (ad 13, .inl (kd 13, 60, .inl (g 13))),
  (ad 14, .inl (kd 14, 60, .inl (g 14))),
  (ad 15, .inr (3, [.int (v 4), .ref (ad 16), .ref (ad 17), .ref (ad 18), .ref (ad 19), .ref (ad 20), .ref (ad 21), .ref (ad 22), .ref (ad 23)])),
  (ad 16, .inl (kd 16, 60, .inl (g 16))),
  (ad 17, .inl (kd 17, 60, .inl (g 17))),
  (ad 18, .inl (kd 18, 60, .inl (g 18))),
  (ad 19, .inl (kd 19, 60, .inl (g 19))),
  (ad 20, .inl (kd 20, 60, .inr (.inl z))),
  (ad 21, .inl (kd 21, 60, .inl (g 21))),
  (ad 22, .inl (kd 22, 60, .inl (g 22))),
  (ad 23, .inl (kd 23, 60, .inl (g 23)))]
def tA (kd : Nat → ClassId) : List (ClassId × FieldType) := [(kd 2, .int), (kd 3, .int), (kd 4, .int), (kd 5, .int), (kd 6, .int), (kd 7, .int), (kd 8, .int), (kd 10, .int), (kd 11, .int), (kd 12, .int), (kd 13, .int), (kd 14, .int), (kd 16, .int), (kd 17, .int), (kd 18, .int), (kd 19, .int), (kd 20, .long), (kd 21, .int), (kd 22, .int), (kd 23, .int)]
theorem wA_fst (ad : Nat → Nat) (kd : Nat → ClassId) (g g2 : Nat → Nat → Int32) (z z2 : Nat → Int64) (v v2 : Nat → Int32) : (wA ad kd g z v).map (·.1) = (wA ad kd g2 z2 v2).map (·.1) := rfl
theorem D_fst {A : Nat → Prop} {w w2 : va_W} (e : w2.map (·.1) = w.map (·.1)) (h : va_D A w) : va_D A w2 := by
  have key : ∀ (k : Nat) (q : Nat × va_E), w2[k]? = some q → ∃ q2 : Nat × va_E, w[k]? = some q2 ∧ q2.1 = q.1 := by
    intro k q hq
    have h1 : (w2.map (·.1))[k]? = some q.1 := by rw [List.getElem?_map, hq]; rfl
    rw [e, List.getElem?_map] at h1
    cases hk : w[k]? with
    | none => rw [hk] at h1; cases h1
    | some q2 => rw [hk] at h1; exact ⟨q2, rfl, Option.some.inj h1⟩
  refine ⟨fun i j p q hp hq hpq => ?_, fun k q hq => ?_⟩
  · obtain ⟨p2, a1, a2⟩ := key i p hp
    obtain ⟨q2, b1, b2⟩ := key j q hq
    exact h.1 i j p2 q2 a1 b1 (by rw [a2, b2, hpq])
  · obtain ⟨q2, b1, b2⟩ := key k q hq
    rw [← b2]
    exact h.2 k q2 b1
theorem wA_D {A : Nat → Prop} {ad : Nat → Nat} {kd : Nat → ClassId} {g g2 : Nat → Nat → Int32} {z z2 : Nat → Int64} {v v2 : Nat → Int32} (h : va_D A (wA ad kd g z v)) : va_D A (wA ad kd g2 z2 v2) := D_fst (wA_fst ad kd g2 g z2 z v2 v) h
