/-! what the reference's public methods answer and do -/
theorem depF_le (f3 : Nat → Int32) : ∀ (f k : Nat), depF f3 f k ≤ f + 1
  | 0, _ => Nat.le_refl 1
  | f + 1, k => by
    show (if f3 k < 0 then 1 else depF f3 f (ix (f3 k)) + 1) ≤ f + 1 + 1
    have := depF_le f3 f (ix (f3 k))
    split <;> omega
theorem firR_lt {h : Nat → Nat → Int32} {nx : Nat} (hn : nx ≤ 60) : ∀ (f k : Nat), k < nx → firR h nx f k < nx
  | 0, k, q => q
  | f + 1, k, q => by
    show (if prvR h nx (nI k) < 0 then k else firR h nx f (ix (prvR h nx (nI k)))) < nx
    split
    · exact q
    · rename_i h1
      obtain ⟨j, hj, -, ej⟩ := lasN_ix (by omega) h1
      rw [show prvR h nx (nI k) = nI j from ej, ix_nI (by omega)]
      exact firR_lt hn f j hj
theorem bofR_le (o : Nat → Bool) (nb k : Nat) : bofR o nb k ≤ nb := cntN_le _ _
theorem sub0 {x y : Int32} (h : x - y = 0) : y = x := by
  have e : x = y + (x - y) := by
    apply Int32.toBitVec_inj.mp
    simp only [Int32.toBitVec_sub, Int32.toBitVec_add]
    bv_omega
  rw [e, h, Int32.add_zero]
theorem sub0n {x y : Int32} (h : ¬ x - y = 0) : ¬ y = x := fun q => h (by rw [q]; exact Int32.sub_self _)
theorem sub_cnt (x : Int32) (n : Nat) : x - nI n - 1 = x - nI (n + 1) := by rw [sub_step, ← nI_1]
theorem inS_nI {k b : Nat} (h : k ≤ b) (hb : b < 2 ^ 31 := by decide) : inS (nI k) 0 (nI b) = true := by
  unfold inS
  rw [if_neg (nI_pos (by omega)), if_neg (nI_nlt h hb)]
def onK (h : Nat → Nat → Int32) (o : Nat → Bool) (nb nx : Nat) (x y : Int32) : Bool :=
  if inN nx x = true then (if inN nb y = true then (if h 9 (ix x) = h 1 (ix y) then (if o (60 * ix x + ix y) = true then false else if bofR o nb (ix x) = 4 then false else if h 13 (ix x) < 0 then true else false) else false) else false) else false
def onO (h : Nat → Nat → Int32) (o : Nat → Bool) (nb nx : Nat) (x y : Int32) : Nat → Bool := if onK h o nb nx x y = true then updO o (60 * ix x + ix y) else o
def lanK (h : Nat → Nat → Int32) (nx : Nat) (x w : Int32) : Bool := if inN nx x = true then (if 0 ≤ h 12 (ix x) then false else if inS w 0 1000000 = true then true else false) else false
def lanH (h : Nat → Nat → Int32) (nx : Nat) (x w : Int32) : Nat → Nat → Int32 := if lanK h nx x w = true then up h 12 (ix x) w else h
def arrK (u : Nat → Int32) (x : Int32) : Bool := if inS x 0 3 = true then (if (u 6 >>> (x &&& 31)) &&& 1 = 1 then false else true) else false
def arrU (u : Nat → Int32) (x : Int32) : Nat → Int32 := if arrK u x = true then upd (upd u 0 0) 6 (u 6 ||| ((1 : Int32) <<< (x &&& 31))) else upd u 0 0
def titK (h : Nat → Nat → Int32) (k : Nat) (f : Int32) : Bool := if h 4 k = f then (if h 5 k ≤ 0 then true else false) else false
def ordK (h : Nat → Nat → Int32) (o : Nat → Bool) (k j : Nat) (w : Int32) : Bool :=
  if 0 ≤ h 13 j then false else if o (60 * j + k) = true then (if h 12 j < 0 then false else if h 4 k = w then true else false) else false
def legK (h : Nat → Nat → Int32) (nx : Nat) (x y : Int32) : Bool :=
  if inN nx x = true then (if inN nx y = true then (if h 9 (ix x) = h 9 (ix y) then false else if 0 ≤ h 14 (ix x) then false else if 0 ≤ prvR h nx y then false else if firR h nx 60 (ix x) = ix y then false else true) else false) else false
def legH (h : Nat → Nat → Int32) (nx : Nat) (x y : Int32) : Nat → Nat → Int32 := if legK h nx x y = true then up h 14 (ix x) y else h
def looK (h : Nat → Nat → Int32) (o : Nat → Bool) (nb nl nx j : Nat) : Nat → Int32
  | 0 => h 1 j
  | 1 => h 2 j
  | 2 => h 3 j
  | 3 => nI (depF (h 3) 60 j)
  | 4 => nI (lofR h nl (nI j))
  | 5 => wofR h nl (nI j)
  | 6 => pofR h nl (nI j)
  | 7 => difR h nb nl (nI j)
  | 8 => lwtR h o nb nx j
  | 9 => if wofR h nl (nI j) - lwtR h o nb nx j ≤ 0 then 0 else wofR h nl (nI j) - lwtR h o nb nx j
  | 10 => if 0 ≤ wofR h nl (nI j) - lwtR h o nb nx j then 0 else -(wofR h nl (nI j) - lwtR h o nb nx j)
  | 11 => h 4 j
  | 12 => h 5 j
  | 13 => nI (belR h nb (nI j))
  | 14 => nI (xofR o nx j)
  | _ => nI (masF (h 3) 60 j)
def lanP (h : Nat → Nat → Int32) (k : Nat) : Bool := if h 12 k < 0 then false else true
def cntK (h : Nat → Nat → Int32) (o : Nat → Bool) (u : Nat → Int32) (nb nl nx : Nat) : Nat → Int32
  | 0 => nI nb
  | 1 => nI nx
  | 2 => nI nl
  | 3 => u 4
  | 4 => u 5
  | 5 => nI (cntN (lanP h) nx)
  | 6 => nI (cntN (wnoR h o nb) nx)
  | 7 => u 6
  | _ => nI (dgR h nb nl)
def bilK (h : Nat → Nat → Int32) (nb : Nat) (x y a : Int32) : Bool :=
  if 0 ≤ numR h nb x y then false else if a = -1 then true else if inN nb a = true then (if h 1 (ix a) = x then (if depF (h 3) 60 (ix a) = 4 then false else if h 5 (ix a) ≤ 0 then true else false) else false) else false
def takK (h : Nat → Nat → Int32) (nx : Nat) (x y : Int32) : Bool := anyN (fun k => decide (h 9 k = x) && decide (h 10 k = y)) nx
def addK (h : Nat → Nat → Int32) (nx : Nat) (x y w : Int32) : Nat → Nat → Int32 := up (up (up (up (up (up h 9 nx x) 10 nx y) 11 nx w) 12 nx (-1)) 13 nx (-1)) 14 nx (-1)
def likK (h : Nat → Nat → Int32) (x : Int32) (n0 b : Nat) : Bool := if h 1 b = x then likL 8 0 false (ix (h 2 b)) n0 else false
