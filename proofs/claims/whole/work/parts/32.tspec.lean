/-! when the class throws -/
def cbT (nb : Nat) (x y : Int32) : Nat := if isCallS x = true then (if isNumS y = true then (if decide (60 ≤ nb) = true then 2 else 0) else 1) else 1
def clT (nb nl : Nat) (x y q : Int32) : Nat := if inN nb x = true then (if isWtS y = true then (if q < 0 then 1 else if q ≤ 10000 then (if decide (200 ≤ nl) = true then 2 else 0) else 1) else 1) else 1
def cxT (nx : Nat) (x y q : Int32) : Nat := if isCallS x = true then (if isNumS y = true then (if isWtS q = true then (if decide (60 ≤ nx) = true then 2 else 0) else 1) else 1) else 1
def csT (nb nl : Nat) (x y : Int32) : Nat := if inN nb x = true then (if 1 ≤ y then (if decide (60 ≤ nb) = true then 2 else if decide (200 ≤ nl) = true then 2 else 0) else 1) else 1
def caT (g : Nat → Nat → Int32) (nb nl : Nat) (x y q : Int32) : Nat := if inN nb x = true then (if rowN g nl x y = -1 then 1 else if isWtS q = true then 0 else 1) else 1
def ctT (nb : Nat) (x y q : Int32) : Nat := if inN nb x = true then (if isHoS y = true then (if isHoS q = true then (if y = q then 1 else 0) else 1) else 1) else 1
def coT (nb nx : Nat) (x y q : Int32) : Nat := if inN nb x = true then (if inN nx y = true then (if isHoS q = true then 0 else 1) else 1) else 1
def ckT (x y : Int32) : Nat := if isCallS x = true then (if isNumS y = true then 0 else 1) else 1
def ceT (nx : Nat) (x y : Int32) : Nat := if inN nx x = true then (if y < 0 then 1 else if y ≤ 13 then 0 else 1) else 1
def xStr : List (Nat × String) := [(46, "no such call or number"), (57, "all bills are there"), (77, "no such bill, weight or pieces"), (80, "all lines are there"), (85, "no such call, number or weight"), (88, "all boxes are there"), (125, "no such bill, line or weight"), (138, "no such bill or holder, or both are one"), (144, "no such bill, box or holder"), (152, "no such bill, or less than a kilogram"), (154, "all bills or all lines are there"), (182, "no such bill"), (212, "no such what"), (214, "no such box or what"), (231, "the box is on less bills")]
def nsx : ByteArray := ⟨#[0x2a, 0x2b, 0xb7, 0x00, 0x0d, 0xb1]⟩
theorem nsx_0 : decode nsx 0 = .ok (.aload_n 0, 1) := by decide +kernel
theorem nsx_1 : decode nsx 1 = .ok (.aload_n 1, 1) := by decide +kernel
theorem nsx_2 : decode nsx 2 = .ok (.invokespecial 13, 3) := by decide +kernel
theorem nsx_5 : decode nsx 5 = .ok (.return_, 1) := by decide +kernel
theorem at_NS : ∀ w ∈ xAll R_M 233 "java/util/NoSuchElementException" "java/lang/RuntimeException" 13 nsx ["java/lang/Exception"], w ∈ TB ∨ w ∈ xV ∨ w ∈ x4 := by decide +kernel
theorem at_IA : ∀ w ∈ Bundle.ownAtoms R_M 48 "java/lang/IllegalArgumentException" ["java/lang/RuntimeException", "java/lang/Exception"], w ∈ TB ∨ w ∈ xV ∨ w ∈ x4 := by decide +kernel
theorem at_IS : ∀ w ∈ Bundle.ownAtoms R_M 59 "java/lang/IllegalStateException" ["java/lang/RuntimeException", "java/lang/Exception"], w ∈ TB ∨ w ∈ xV ∨ w ∈ x4 := by decide +kernel
theorem at_IO : ∀ w ∈ Bundle.ownAtoms R_M 184 "java/lang/IndexOutOfBoundsException" ["java/lang/RuntimeException", "java/lang/Exception"], w ∈ TB ∨ w ∈ xV ∨ w ∈ x4 := by decide +kernel
