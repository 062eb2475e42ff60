/-! when the reference says that it throws -/
def bilT (nb : Nat) (x y : Int32) : Int32 := if inS x 0 3 = true then (if inS y 0 99999999 = true then (if nb = 60 then 2 else 0) else 1) else 1
def linT (nb nl : Nat) (x y q : Int32) : Int32 := if inN nb x = true then (if inS y 0 1000000 = true then (if inS q 0 10000 = true then (if nl = 200 then 2 else 0) else 1) else 1) else 1
def boxT (nx : Nat) (x y w : Int32) : Int32 := if inS x 0 3 = true then (if inS y 0 99999999 = true then (if inS w 0 1000000 = true then (if nx = 60 then 2 else 0) else 1) else 1) else 1
def amdT (h : Nat → Nat → Int32) (nb nl : Nat) (x y w : Int32) : Int32 := if inN nb x = true then (if y < 0 then 1 else if nI (lofR h nl x) ≤ y then 1 else if inS w 0 1000000 = true then 0 else 1) else 1
def titT (nb : Nat) (x y q : Int32) : Int32 := if inN nb x = true then (if inS y 0 9 = true then (if inS q 0 9 = true then (if y = q then 1 else 0) else 1) else 1) else 1
def ordT (nb nx : Nat) (x y q : Int32) : Int32 := if inN nb x = true then (if inN nx y = true then (if inS q 0 9 = true then 0 else 1) else 1) else 1
def splT (nb nl : Nat) (x w : Int32) : Int32 := if inN nb x = true then (if 1 ≤ w then (if nb = 60 then 2 else if nl = 200 then 2 else 0) else 1) else 1
def looT (nb : Nat) (x y : Int32) : Int32 := if inN nb x = true then (if inS y 0 15 = true then 0 else 1) else 1
def seeT (o : Nat → Bool) (nb nx : Nat) (x y : Int32) : Int32 := if inN nx x = true then (if inS y 0 13 = true then (if y - 10 < nI (bofR o nb (ix x)) then 0 else 2) else 1) else 1
def likT (x y : Int32) : Int32 := if inS x 0 3 = true then (if inS y 0 99999999 = true then 0 else 1) else 1
def wK0 (h0 : Nat) (u : AK) : va_W := wK (ad0 h0 u.1) u.2 (fun _ _ => 0) (fun _ => false) (fun _ => 0)
def tK0 (u : AK) : List (ClassId × FieldType) := tK u.2
