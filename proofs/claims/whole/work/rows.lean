section
-- ===== PART A: goes FIRST, ahead of the names: the tables' words, and 'selects' of the private methods out of them =====
/-- a private method of a class that the tables say can be made, by its rows of tables_1 -/
def lw_okq (q : MethodName × Nat) : Prop := (q.1.cls ≠ "java/lang/invoke/MethodHandle" ∧ q.1.cls ≠ "java/lang/invoke/VarHandle") ∧ Cond.instantiable q.1.cls q.2 ∈ tables_1 ∧ Cond.privateMethod q.1 ∈ tables_1 ∧ Cond.instanceMethod q.1 ∈ tables_1
theorem lw_p0 : lw_okq (⟨"BillMatch", "hasArrived", "(I)Z"⟩, 5) := ⟨⟨by decide +kernel, by decide +kernel⟩, List.mem_of_getElem? (i := 16) (by decide +kernel), List.mem_of_getElem? (i := 205) (by decide +kernel), List.mem_of_getElem? (i := 206) (by decide +kernel)⟩
theorem lw_p1 : lw_okq (⟨"BillMatch", "mastersThatDiffer", "()I"⟩, 5) := ⟨⟨by decide +kernel, by decide +kernel⟩, List.mem_of_getElem? (i := 16) (by decide +kernel), List.mem_of_getElem? (i := 245) (by decide +kernel), List.mem_of_getElem? (i := 246) (by decide +kernel)⟩
theorem lw_p2 : lw_okq (⟨"BillMatch", "someOneDiffers", "(I)Z"⟩, 5) := ⟨⟨by decide +kernel, by decide +kernel⟩, List.mem_of_getElem? (i := 16) (by decide +kernel), List.mem_of_getElem? (i := 249) (by decide +kernel), List.mem_of_getElem? (i := 250) (by decide +kernel)⟩
theorem lw_p3 : lw_okq (⟨"BillMatch", "difference", "(I)I"⟩, 5) := ⟨⟨by decide +kernel, by decide +kernel⟩, List.mem_of_getElem? (i := 16) (by decide +kernel), List.mem_of_getElem? (i := 253) (by decide +kernel), List.mem_of_getElem? (i := 254) (by decide +kernel)⟩
theorem lw_p4 : lw_okq (⟨"java/lang/Throwable", "fillInStackTrace", "(I)Ljava/lang/Throwable;"⟩, 6) := ⟨⟨by decide +kernel, by decide +kernel⟩, List.mem_of_getElem? (i := 309) (by decide +kernel), List.mem_of_getElem? (i := 307) (by decide +kernel), List.mem_of_getElem? (i := 308) (by decide +kernel)⟩
theorem lw_p5 : lw_okq (⟨"BillMatchModel", "numbered", "(II)I"⟩, 22) := ⟨⟨by decide +kernel, by decide +kernel⟩, List.mem_of_getElem? (i := 565) (by decide +kernel), List.mem_of_getElem? (i := 651) (by decide +kernel), List.mem_of_getElem? (i := 652) (by decide +kernel)⟩
theorem lw_p6 : lw_okq (⟨"BillMatchModel", "isBill", "(I)Z"⟩, 22) := ⟨⟨by decide +kernel, by decide +kernel⟩, List.mem_of_getElem? (i := 565) (by decide +kernel), List.mem_of_getElem? (i := 655) (by decide +kernel), List.mem_of_getElem? (i := 656) (by decide +kernel)⟩
theorem lw_p7 : lw_okq (⟨"BillMatchModel", "depthOf", "(I)I"⟩, 22) := ⟨⟨by decide +kernel, by decide +kernel⟩, List.mem_of_getElem? (i := 565) (by decide +kernel), List.mem_of_getElem? (i := 659) (by decide +kernel), List.mem_of_getElem? (i := 660) (by decide +kernel)⟩
theorem lw_p8 : lw_okq (⟨"BillMatchModel", "make", "(III)I"⟩, 22) := ⟨⟨by decide +kernel, by decide +kernel⟩, List.mem_of_getElem? (i := 565) (by decide +kernel), List.mem_of_getElem? (i := 663) (by decide +kernel), List.mem_of_getElem? (i := 664) (by decide +kernel)⟩
theorem lw_p9 : lw_okq (⟨"BillMatchModel", "add", "(III)I"⟩, 22) := ⟨⟨by decide +kernel, by decide +kernel⟩, List.mem_of_getElem? (i := 565) (by decide +kernel), List.mem_of_getElem? (i := 672) (by decide +kernel), List.mem_of_getElem? (i := 673) (by decide +kernel)⟩
theorem lw_p10 : lw_okq (⟨"BillMatchModel", "linesOf", "(I)I"⟩, 22) := ⟨⟨by decide +kernel, by decide +kernel⟩, List.mem_of_getElem? (i := 565) (by decide +kernel), List.mem_of_getElem? (i := 676) (by decide +kernel), List.mem_of_getElem? (i := 677) (by decide +kernel)⟩
theorem lw_p11 : lw_okq (⟨"BillMatchModel", "isBox", "(I)Z"⟩, 22) := ⟨⟨by decide +kernel, by decide +kernel⟩, List.mem_of_getElem? (i := 565) (by decide +kernel), List.mem_of_getElem? (i := 688) (by decide +kernel), List.mem_of_getElem? (i := 689) (by decide +kernel)⟩
theorem lw_p12 : lw_okq (⟨"BillMatchModel", "stands", "(II)Z"⟩, 22) := ⟨⟨by decide +kernel, by decide +kernel⟩, List.mem_of_getElem? (i := 565) (by decide +kernel), List.mem_of_getElem? (i := 692) (by decide +kernel), List.mem_of_getElem? (i := 693) (by decide +kernel)⟩
theorem lw_p13 : lw_okq (⟨"BillMatchModel", "billsOf", "(I)I"⟩, 22) := ⟨⟨by decide +kernel, by decide +kernel⟩, List.mem_of_getElem? (i := 565) (by decide +kernel), List.mem_of_getElem? (i := 696) (by decide +kernel), List.mem_of_getElem? (i := 697) (by decide +kernel)⟩
theorem lw_p14 : lw_okq (⟨"BillMatchModel", "lineAt", "(II)I"⟩, 22) := ⟨⟨by decide +kernel, by decide +kernel⟩, List.mem_of_getElem? (i := 565) (by decide +kernel), List.mem_of_getElem? (i := 712) (by decide +kernel), List.mem_of_getElem? (i := 713) (by decide +kernel)⟩
theorem lw_p15 : lw_okq (⟨"BillMatchModel", "weightOf", "(I)I"⟩, 22) := ⟨⟨by decide +kernel, by decide +kernel⟩, List.mem_of_getElem? (i := 565) (by decide +kernel), List.mem_of_getElem? (i := 731) (by decide +kernel), List.mem_of_getElem? (i := 732) (by decide +kernel)⟩
def lw_privs_1 : List (MethodName × Nat) := [(⟨"BillMatch", "hasArrived", "(I)Z"⟩, 5), (⟨"BillMatch", "mastersThatDiffer", "()I"⟩, 5), (⟨"BillMatch", "someOneDiffers", "(I)Z"⟩, 5), (⟨"BillMatch", "difference", "(I)I"⟩, 5), (⟨"java/lang/Throwable", "fillInStackTrace", "(I)Ljava/lang/Throwable;"⟩, 6), (⟨"BillMatchModel", "numbered", "(II)I"⟩, 22), (⟨"BillMatchModel", "isBill", "(I)Z"⟩, 22), (⟨"BillMatchModel", "depthOf", "(I)I"⟩, 22), (⟨"BillMatchModel", "make", "(III)I"⟩, 22), (⟨"BillMatchModel", "add", "(III)I"⟩, 22), (⟨"BillMatchModel", "linesOf", "(I)I"⟩, 22), (⟨"BillMatchModel", "isBox", "(I)Z"⟩, 22), (⟨"BillMatchModel", "stands", "(II)Z"⟩, 22), (⟨"BillMatchModel", "billsOf", "(I)I"⟩, 22), (⟨"BillMatchModel", "lineAt", "(II)I"⟩, 22), (⟨"BillMatchModel", "weightOf", "(I)I"⟩, 22)]
theorem lw_r1 : ∀ q ∈ lw_privs_1, lw_okq q := List.forall_mem_cons.mpr ⟨lw_p0, List.forall_mem_cons.mpr ⟨lw_p1, List.forall_mem_cons.mpr ⟨lw_p2, List.forall_mem_cons.mpr ⟨lw_p3, List.forall_mem_cons.mpr ⟨lw_p4, List.forall_mem_cons.mpr ⟨lw_p5, List.forall_mem_cons.mpr ⟨lw_p6, List.forall_mem_cons.mpr ⟨lw_p7, List.forall_mem_cons.mpr ⟨lw_p8, List.forall_mem_cons.mpr ⟨lw_p9, List.forall_mem_cons.mpr ⟨lw_p10, List.forall_mem_cons.mpr ⟨lw_p11, List.forall_mem_cons.mpr ⟨lw_p12, List.forall_mem_cons.mpr ⟨lw_p13, List.forall_mem_cons.mpr ⟨lw_p14, List.forall_mem_cons.mpr ⟨lw_p15, fun _ h => absurd h List.not_mem_nil⟩⟩⟩⟩⟩⟩⟩⟩⟩⟩⟩⟩⟩⟩⟩⟩
theorem lw_p16 : lw_okq (⟨"BillMatchModel", "belowOf", "(I)I"⟩, 22) := ⟨⟨by decide +kernel, by decide +kernel⟩, List.mem_of_getElem? (i := 565) (by decide +kernel), List.mem_of_getElem? (i := 735) (by decide +kernel), List.mem_of_getElem? (i := 736) (by decide +kernel)⟩
theorem lw_p17 : lw_okq (⟨"BillMatchModel", "previousOf", "(I)I"⟩, 22) := ⟨⟨by decide +kernel, by decide +kernel⟩, List.mem_of_getElem? (i := 565) (by decide +kernel), List.mem_of_getElem? (i := 744) (by decide +kernel), List.mem_of_getElem? (i := 745) (by decide +kernel)⟩
theorem lw_p18 : lw_okq (⟨"BillMatchModel", "firstOf", "(I)I"⟩, 22) := ⟨⟨by decide +kernel, by decide +kernel⟩, List.mem_of_getElem? (i := 565) (by decide +kernel), List.mem_of_getElem? (i := 748) (by decide +kernel), List.mem_of_getElem? (i := 749) (by decide +kernel)⟩
theorem lw_p19 : lw_okq (⟨"BillMatchModel", "landedWeight", "(I)I"⟩, 22) := ⟨⟨by decide +kernel, by decide +kernel⟩, List.mem_of_getElem? (i := 565) (by decide +kernel), List.mem_of_getElem? (i := 756) (by decide +kernel), List.mem_of_getElem? (i := 757) (by decide +kernel)⟩
theorem lw_p20 : lw_okq (⟨"BillMatchModel", "piecesOf", "(I)I"⟩, 22) := ⟨⟨by decide +kernel, by decide +kernel⟩, List.mem_of_getElem? (i := 565) (by decide +kernel), List.mem_of_getElem? (i := 760) (by decide +kernel), List.mem_of_getElem? (i := 761) (by decide +kernel)⟩
theorem lw_p21 : lw_okq (⟨"BillMatchModel", "differs", "(I)I"⟩, 22) := ⟨⟨by decide +kernel, by decide +kernel⟩, List.mem_of_getElem? (i := 565) (by decide +kernel), List.mem_of_getElem? (i := 764) (by decide +kernel), List.mem_of_getElem? (i := 765) (by decide +kernel)⟩
theorem lw_p22 : lw_okq (⟨"BillMatchModel", "boxesOf", "(I)I"⟩, 22) := ⟨⟨by decide +kernel, by decide +kernel⟩, List.mem_of_getElem? (i := 565) (by decide +kernel), List.mem_of_getElem? (i := 768) (by decide +kernel), List.mem_of_getElem? (i := 769) (by decide +kernel)⟩
theorem lw_p23 : lw_okq (⟨"BillMatchModel", "masterOf", "(I)I"⟩, 22) := ⟨⟨by decide +kernel, by decide +kernel⟩, List.mem_of_getElem? (i := 565) (by decide +kernel), List.mem_of_getElem? (i := 772) (by decide +kernel), List.mem_of_getElem? (i := 773) (by decide +kernel)⟩
theorem lw_p24 : lw_okq (⟨"BillMatchModel", "waitsNow", "(I)Z"⟩, 22) := ⟨⟨by decide +kernel, by decide +kernel⟩, List.mem_of_getElem? (i := 565) (by decide +kernel), List.mem_of_getElem? (i := 780) (by decide +kernel), List.mem_of_getElem? (i := 781) (by decide +kernel)⟩
theorem lw_p25 : lw_okq (⟨"BillMatchModel", "differing", "()I"⟩, 22) := ⟨⟨by decide +kernel, by decide +kernel⟩, List.mem_of_getElem? (i := 565) (by decide +kernel), List.mem_of_getElem? (i := 799) (by decide +kernel), List.mem_of_getElem? (i := 800) (by decide +kernel)⟩
def lw_privs_2 : List (MethodName × Nat) := [(⟨"BillMatchModel", "belowOf", "(I)I"⟩, 22), (⟨"BillMatchModel", "previousOf", "(I)I"⟩, 22), (⟨"BillMatchModel", "firstOf", "(I)I"⟩, 22), (⟨"BillMatchModel", "landedWeight", "(I)I"⟩, 22), (⟨"BillMatchModel", "piecesOf", "(I)I"⟩, 22), (⟨"BillMatchModel", "differs", "(I)I"⟩, 22), (⟨"BillMatchModel", "boxesOf", "(I)I"⟩, 22), (⟨"BillMatchModel", "masterOf", "(I)I"⟩, 22), (⟨"BillMatchModel", "waitsNow", "(I)Z"⟩, 22), (⟨"BillMatchModel", "differing", "()I"⟩, 22)]
theorem lw_r2 : ∀ q ∈ lw_privs_2, lw_okq q := List.forall_mem_cons.mpr ⟨lw_p16, List.forall_mem_cons.mpr ⟨lw_p17, List.forall_mem_cons.mpr ⟨lw_p18, List.forall_mem_cons.mpr ⟨lw_p19, List.forall_mem_cons.mpr ⟨lw_p20, List.forall_mem_cons.mpr ⟨lw_p21, List.forall_mem_cons.mpr ⟨lw_p22, List.forall_mem_cons.mpr ⟨lw_p23, List.forall_mem_cons.mpr ⟨lw_p24, List.forall_mem_cons.mpr ⟨lw_p25, fun _ h => absurd h List.not_mem_nil⟩⟩⟩⟩⟩⟩⟩⟩⟩⟩
def lw_privs : List (MethodName × Nat) := lw_privs_1 ++ (lw_privs_2)
def lw_tbl : List Cond := k2_sels lw_privs ++ tables_1
theorem lw_privs_ok : ∀ q ∈ lw_privs, lw_okq q := by
  show ∀ q ∈ lw_privs_1 ++ (lw_privs_2), lw_okq q
  exact List.forall_mem_append.mpr ⟨lw_r1, lw_r2⟩
/-! ===== own names ===== -/
def R_M : String := "BillMatch"
def R_B : String := "BillMatch$Bills"
def R_N : String := "BillMatch$Lines"
def R_X : String := "BillMatch$Boxes"
def R_K : String := "BillMatchModel"
def R_L : String := "BillMatchLaw"
def R_J : String := "java/lang/Long"
def F_M : u_T := fun k => match k with
  | 0 => ("BillMatch", "bills", "LBillMatch$Bills;", true)
  | 1 => ("BillMatch", "lines", "LBillMatch$Lines;", true)
  | 2 => ("BillMatch", "boxes", "LBillMatch$Boxes;", true)
  | 3 => ("BillMatch", "arrivedCalls", "I", false)
  | _ => ("BillMatch", "penalties", "I", false)
def t_M : Nat → FieldType := fun k => match k with
  | 0 => .object "BillMatch$Bills"
  | 1 => .object "BillMatch$Lines"
  | 2 => .object "BillMatch$Boxes"
  | 3 => .int
  | _ => .int
theorem n_M : ∀ a, a < 5 → ∀ b, b < 5 → a ≠ b → (F_M a).2.1 ≠ (F_M b).2.1 := by decide +kernel
theorem t_M_ok : ∀ k, k < 5 → parseFieldDescriptor (F_M k).2.2.1 = some (t_M k) := by decide +kernel
def F_B : u_T := fun k => match k with
  | 0 => ("BillMatch$Bills", "size", "I", false)
  | 1 => ("BillMatch$Bills", "call", "[I", true)
  | 2 => ("BillMatch$Bills", "number", "[I", true)
  | 3 => ("BillMatch$Bills", "above", "[I", true)
  | 4 => ("BillMatch$Bills", "depth", "[I", true)
  | 5 => ("BillMatch$Bills", "master", "[I", true)
  | 6 => ("BillMatch$Bills", "holder", "[I", true)
  | _ => ("BillMatch$Bills", "orders", "[I", true)
def t_B : Nat → FieldType := fun k => match k with
  | 0 => .int
  | 1 => .array .int
  | 2 => .array .int
  | 3 => .array .int
  | 4 => .array .int
  | 5 => .array .int
  | 6 => .array .int
  | _ => .array .int
theorem n_B : ∀ a, a < 8 → ∀ b, b < 8 → a ≠ b → (F_B a).2.1 ≠ (F_B b).2.1 := by decide +kernel
theorem t_B_ok : ∀ k, k < 8 → parseFieldDescriptor (F_B k).2.2.1 = some (t_B k) := by decide +kernel
def F_N : u_T := fun k => match k with
  | 0 => ("BillMatch$Lines", "size", "I", false)
  | 1 => ("BillMatch$Lines", "bill", "[I", true)
  | 2 => ("BillMatch$Lines", "weight", "[I", true)
  | 3 => ("BillMatch$Lines", "linesOf", "[I", true)
  | 4 => ("BillMatch$Lines", "weightOf", "[I", true)
  | _ => ("BillMatch$Lines", "piecesOf", "[I", true)
def t_N : Nat → FieldType := fun k => match k with
  | 0 => .int
  | 1 => .array .int
  | 2 => .array .int
  | 3 => .array .int
  | 4 => .array .int
  | _ => .array .int
theorem n_N : ∀ a, a < 6 → ∀ b, b < 6 → a ≠ b → (F_N a).2.1 ≠ (F_N b).2.1 := by decide +kernel
theorem t_N_ok : ∀ k, k < 6 → parseFieldDescriptor (F_N k).2.2.1 = some (t_N k) := by decide +kernel
def F_X : u_T := fun k => match k with
  | 0 => ("BillMatch$Boxes", "size", "I", false)
  | 1 => ("BillMatch$Boxes", "call", "[I", true)
  | 2 => ("BillMatch$Boxes", "number", "[I", true)
  | 3 => ("BillMatch$Boxes", "weight", "[I", true)
  | 4 => ("BillMatch$Boxes", "landed", "[I", true)
  | 5 => ("BillMatch$Boxes", "bills", "[J", true)
  | 6 => ("BillMatch$Boxes", "orderedBy", "[I", true)
  | 7 => ("BillMatch$Boxes", "next", "[I", true)
  | _ => ("BillMatch$Boxes", "before", "[I", true)
def t_X : Nat → FieldType := fun k => match k with
  | 0 => .int
  | 1 => .array .int
  | 2 => .array .int
  | 3 => .array .int
  | 4 => .array .int
  | 5 => .array .long
  | 6 => .array .int
  | 7 => .array .int
  | _ => .array .int
theorem n_X : ∀ a, a < 9 → ∀ b, b < 9 → a ≠ b → (F_X a).2.1 ≠ (F_X b).2.1 := by decide +kernel
theorem t_X_ok : ∀ k, k < 9 → parseFieldDescriptor (F_X k).2.2.1 = some (t_X k) := by decide +kernel
def F_K : u_T := fun k => match k with
  | 0 => ("BillMatchModel", "thrown", "I", false)
  | 1 => ("BillMatchModel", "bills", "I", false)
  | 2 => ("BillMatchModel", "boxes", "I", false)
  | 3 => ("BillMatchModel", "lines", "I", false)
  | 4 => ("BillMatchModel", "penalties", "I", false)
  | 5 => ("BillMatchModel", "orders", "I", false)
  | 6 => ("BillMatchModel", "arrived", "I", false)
  | 7 => ("BillMatchModel", "callOf", "[I", true)
  | 8 => ("BillMatchModel", "numberOf", "[I", true)
  | 9 => ("BillMatchModel", "aboveOf", "[I", true)
  | 10 => ("BillMatchModel", "holderOf", "[I", true)
  | 11 => ("BillMatchModel", "ordersOf", "[I", true)
  | 12 => ("BillMatchModel", "lineBill", "[I", true)
  | 13 => ("BillMatchModel", "lineWeight", "[I", true)
  | 14 => ("BillMatchModel", "linePieces", "[I", true)
  | 15 => ("BillMatchModel", "boxCall", "[I", true)
  | 16 => ("BillMatchModel", "boxNumber", "[I", true)
  | 17 => ("BillMatchModel", "boxWeight", "[I", true)
  | 18 => ("BillMatchModel", "landedOf", "[I", true)
  | 19 => ("BillMatchModel", "orderedBy", "[I", true)
  | 20 => ("BillMatchModel", "nextOf", "[I", true)
  | _ => ("BillMatchModel", "isOn", "[Z", true)
def t_K : Nat → FieldType := fun k => match k with
  | 0 => .int
  | 1 => .int
  | 2 => .int
  | 3 => .int
  | 4 => .int
  | 5 => .int
  | 6 => .int
  | 7 => .array .int
  | 8 => .array .int
  | 9 => .array .int
  | 10 => .array .int
  | 11 => .array .int
  | 12 => .array .int
  | 13 => .array .int
  | 14 => .array .int
  | 15 => .array .int
  | 16 => .array .int
  | 17 => .array .int
  | 18 => .array .int
  | 19 => .array .int
  | 20 => .array .int
  | _ => .array .boolean
theorem n_K : ∀ a, a < 22 → ∀ b, b < 22 → a ≠ b → (F_K a).2.1 ≠ (F_K b).2.1 := by decide +kernel
theorem t_K_ok : ∀ k, k < 22 → parseFieldDescriptor (F_K k).2.2.1 = some (t_K k) := by decide +kernel
abbrev classes : List vw_C := [(R_M, F_M, 5), (R_B, F_B, 8), (R_N, F_N, 6), (R_X, F_X, 9), (R_K, F_K, 22)]
/-- the words that every method here rests on -/
def TB : List Cond := lw_tbl.filter goodWord
theorem tb_good : ∀ w ∈ TB, goodWord w = true := fun w h => (List.mem_filter.mp h).2
theorem tb_in {w : Cond} {i : Nat} (h : lw_tbl[i]? = some w) (hg : goodWord w = true) : w ∈ TB := List.mem_filter.mpr ⟨List.mem_of_getElem? h, hg⟩
theorem iw_M : ∀ w ∈ u_ws R_M F_M 5, w ∈ TB := by decide +kernel
theorem iw_B : ∀ w ∈ u_ws R_B F_B 8, w ∈ TB := by decide +kernel
theorem iw_N : ∀ w ∈ u_ws R_N F_N 6, w ∈ TB := by decide +kernel
theorem iw_X : ∀ w ∈ u_ws R_X F_X 9, w ∈ TB := by decide +kernel
theorem iw_K : ∀ w ∈ u_ws R_K F_K 22, w ∈ TB := by decide +kernel
abbrev b_M_init : ByteArray := prog_1_method_1_code
def y_M_init : MethodName := ⟨R_M, "<init>", "()V"⟩
abbrev b_M_bill : ByteArray := prog_1_method_2_code
def y_M_bill : MethodName := ⟨R_M, "bill", "(III)I"⟩
abbrev b_M_line : ByteArray := prog_1_method_3_code
def y_M_line : MethodName := ⟨R_M, "line", "(III)I"⟩
abbrev b_M_box : ByteArray := prog_1_method_4_code
def y_M_box : MethodName := ⟨R_M, "box", "(III)I"⟩
abbrev b_M_on : ByteArray := prog_1_method_5_code
def y_M_on : MethodName := ⟨R_M, "on", "(II)Z"⟩
abbrev b_M_land : ByteArray := prog_1_method_6_code
def y_M_land : MethodName := ⟨R_M, "land", "(II)Z"⟩
abbrev b_M_arrive : ByteArray := prog_1_method_7_code
def y_M_arrive : MethodName := ⟨R_M, "arrive", "(I)Z"⟩
abbrev b_M_amend : ByteArray := prog_1_method_8_code
def y_M_amend : MethodName := ⟨R_M, "amend", "(III)I"⟩
abbrev b_M_title : ByteArray := prog_1_method_9_code
def y_M_title : MethodName := ⟨R_M, "title", "(III)I"⟩
abbrev b_M_order : ByteArray := prog_1_method_10_code
def y_M_order : MethodName := ⟨R_M, "order", "(III)I"⟩
abbrev b_M_split : ByteArray := prog_1_method_11_code
def y_M_split : MethodName := ⟨R_M, "split", "(II)I"⟩
abbrev b_M_leg : ByteArray := prog_1_method_12_code
def y_M_leg : MethodName := ⟨R_M, "leg", "(II)Z"⟩
abbrev b_M_look : ByteArray := prog_1_method_13_code
def y_M_look : MethodName := ⟨R_M, "look", "(II)I"⟩
abbrev b_M_seen : ByteArray := prog_1_method_14_code
def y_M_seen : MethodName := ⟨R_M, "seen", "(II)I"⟩
abbrev b_M_waits : ByteArray := prog_1_method_15_code
def y_M_waits : MethodName := ⟨R_M, "waits", "(I)I"⟩
abbrev b_M_like : ByteArray := prog_1_method_16_code
def y_M_like : MethodName := ⟨R_M, "like", "(III)I"⟩
abbrev b_M_count : ByteArray := prog_1_method_17_code
def y_M_count : MethodName := ⟨R_M, "count", "(I)I"⟩
abbrev b_M_hasArrived : ByteArray := prog_1_method_18_code
def y_M_hasArrived : MethodName := ⟨R_M, "hasArrived", "(I)Z"⟩
abbrev b_M_difference : ByteArray := prog_1_method_19_code
def y_M_difference : MethodName := ⟨R_M, "difference", "(I)I"⟩
abbrev b_M_mastersThatDiffer : ByteArray := prog_1_method_20_code
def y_M_mastersThatDiffer : MethodName := ⟨R_M, "mastersThatDiffer", "()I"⟩
abbrev b_M_someOneDiffers : ByteArray := prog_1_method_21_code
def y_M_someOneDiffers : MethodName := ⟨R_M, "someOneDiffers", "(I)Z"⟩
abbrev b_M_isCall : ByteArray := prog_1_method_22_code
def y_M_isCall : MethodName := ⟨R_M, "isCall", "(I)Z"⟩
abbrev b_M_isNumber : ByteArray := prog_1_method_23_code
def y_M_isNumber : MethodName := ⟨R_M, "isNumber", "(I)Z"⟩
abbrev b_M_isWeight : ByteArray := prog_1_method_24_code
def y_M_isWeight : MethodName := ⟨R_M, "isWeight", "(I)Z"⟩
abbrev b_M_isHolder : ByteArray := prog_1_method_25_code
def y_M_isHolder : MethodName := ⟨R_M, "isHolder", "(I)Z"⟩
abbrev b_M_areAlike : ByteArray := prog_1_method_26_code
def y_M_areAlike : MethodName := ⟨R_M, "areAlike", "(II)Z"⟩
abbrev b_B_init : ByteArray := prog_2_method_1_code
def y_B_init : MethodName := ⟨R_B, "<init>", "()V"⟩
abbrev b_B_has : ByteArray := prog_2_method_2_code
def y_B_has : MethodName := ⟨R_B, "has", "(I)Z"⟩
abbrev b_B_isFull : ByteArray := prog_2_method_3_code
def y_B_isFull : MethodName := ⟨R_B, "isFull", "()Z"⟩
abbrev b_B_isOrdered : ByteArray := prog_2_method_4_code
def y_B_isOrdered : MethodName := ⟨R_B, "isOrdered", "(I)Z"⟩
abbrev b_B_isTaken : ByteArray := prog_2_method_5_code
def y_B_isTaken : MethodName := ⟨R_B, "isTaken", "(II)Z"⟩
abbrev b_B_mayStandUnder : ByteArray := prog_2_method_6_code
def y_B_mayStandUnder : MethodName := ⟨R_B, "mayStandUnder", "(II)Z"⟩
abbrev b_B_add : ByteArray := prog_2_method_7_code
def y_B_add : MethodName := ⟨R_B, "add", "(IIII)I"⟩
abbrev b_B_nextFreeNumber : ByteArray := prog_2_method_8_code
def y_B_nextFreeNumber : MethodName := ⟨R_B, "nextFreeNumber", "(I)I"⟩
abbrev b_B_under : ByteArray := prog_2_method_9_code
def y_B_under : MethodName := ⟨R_B, "under", "(I)I"⟩
abbrev b_N_init : ByteArray := prog_4_method_1_code
def y_N_init : MethodName := ⟨R_N, "<init>", "()V"⟩
abbrev b_N_isFull : ByteArray := prog_4_method_2_code
def y_N_isFull : MethodName := ⟨R_N, "isFull", "()Z"⟩
abbrev b_N_add : ByteArray := prog_4_method_3_code
def y_N_add : MethodName := ⟨R_N, "add", "(III)I"⟩
abbrev b_N_rowOf : ByteArray := prog_4_method_4_code
def y_N_rowOf : MethodName := ⟨R_N, "rowOf", "(II)I"⟩
abbrev b_N_changeWeight : ByteArray := prog_4_method_5_code
def y_N_changeWeight : MethodName := ⟨R_N, "changeWeight", "(II)I"⟩
abbrev b_N_take : ByteArray := prog_4_method_6_code
def y_N_take : MethodName := ⟨R_N, "take", "(II)V"⟩
abbrev b_X_init : ByteArray := prog_3_method_1_code
def y_X_init : MethodName := ⟨R_X, "<init>", "()V"⟩
abbrev b_X_has : ByteArray := prog_3_method_2_code
def y_X_has : MethodName := ⟨R_X, "has", "(I)Z"⟩
abbrev b_X_isFull : ByteArray := prog_3_method_3_code
def y_X_isFull : MethodName := ⟨R_X, "isFull", "()Z"⟩
abbrev b_X_isTaken : ByteArray := prog_3_method_4_code
def y_X_isTaken : MethodName := ⟨R_X, "isTaken", "(II)Z"⟩
abbrev b_X_add : ByteArray := prog_3_method_5_code
def y_X_add : MethodName := ⟨R_X, "add", "(III)I"⟩
abbrev b_X_isOn : ByteArray := prog_3_method_6_code
def y_X_isOn : MethodName := ⟨R_X, "isOn", "(II)Z"⟩
abbrev b_X_putOn : ByteArray := prog_3_method_7_code
def y_X_putOn : MethodName := ⟨R_X, "putOn", "(II)V"⟩
abbrev b_X_billsOf : ByteArray := prog_3_method_8_code
def y_X_billsOf : MethodName := ⟨R_X, "billsOf", "(I)I"⟩
abbrev b_X_billAt : ByteArray := prog_3_method_9_code
def y_X_billAt : MethodName := ⟨R_X, "billAt", "(II)I"⟩
abbrev b_X_hasLanded : ByteArray := prog_3_method_10_code
def y_X_hasLanded : MethodName := ⟨R_X, "hasLanded", "(I)Z"⟩
abbrev b_X_isOrdered : ByteArray := prog_3_method_11_code
def y_X_isOrdered : MethodName := ⟨R_X, "isOrdered", "(I)Z"⟩
abbrev b_X_isWaiting : ByteArray := prog_3_method_12_code
def y_X_isWaiting : MethodName := ⟨R_X, "isWaiting", "(I)Z"⟩
abbrev b_X_boxesOn : ByteArray := prog_3_method_13_code
def y_X_boxesOn : MethodName := ⟨R_X, "boxesOn", "(I)I"⟩
abbrev b_X_landedOf : ByteArray := prog_3_method_14_code
def y_X_landedOf : MethodName := ⟨R_X, "landedOf", "(I)I"⟩
abbrev b_X_share : ByteArray := prog_3_method_15_code
def y_X_share : MethodName := ⟨R_X, "share", "(II)I"⟩
abbrev b_X_first : ByteArray := prog_3_method_16_code
def y_X_first : MethodName := ⟨R_X, "first", "(I)I"⟩
abbrev b_X_weightSoFar : ByteArray := prog_3_method_17_code
def y_X_weightSoFar : MethodName := ⟨R_X, "weightSoFar", "(I)I"⟩
abbrev b_X_landedOnes : ByteArray := prog_3_method_18_code
def y_X_landedOnes : MethodName := ⟨R_X, "landedOnes", "()I"⟩
abbrev b_X_orderedOnes : ByteArray := prog_3_method_19_code
def y_X_orderedOnes : MethodName := ⟨R_X, "orderedOnes", "()I"⟩
abbrev b_X_waitingOnes : ByteArray := prog_3_method_20_code
def y_X_waitingOnes : MethodName := ⟨R_X, "waitingOnes", "()I"⟩
abbrev b_K_init : ByteArray := prog_6_method_1_code
def y_K_init : MethodName := ⟨R_K, "<init>", "()V"⟩
abbrev b_K_thrown : ByteArray := prog_6_method_2_code
def y_K_thrown : MethodName := ⟨R_K, "thrown", "()I"⟩
abbrev b_K_in : ByteArray := prog_6_method_3_code
def y_K_in : MethodName := ⟨R_K, "in", "(III)Z"⟩
abbrev b_K_isBill : ByteArray := prog_6_method_4_code
def y_K_isBill : MethodName := ⟨R_K, "isBill", "(I)Z"⟩
abbrev b_K_isBox : ByteArray := prog_6_method_5_code
def y_K_isBox : MethodName := ⟨R_K, "isBox", "(I)Z"⟩
abbrev b_K_stands : ByteArray := prog_6_method_6_code
def y_K_stands : MethodName := ⟨R_K, "stands", "(II)Z"⟩
abbrev b_K_numbered : ByteArray := prog_6_method_7_code
def y_K_numbered : MethodName := ⟨R_K, "numbered", "(II)I"⟩
abbrev b_K_depthOf : ByteArray := prog_6_method_8_code
def y_K_depthOf : MethodName := ⟨R_K, "depthOf", "(I)I"⟩
abbrev b_K_masterOf : ByteArray := prog_6_method_9_code
def y_K_masterOf : MethodName := ⟨R_K, "masterOf", "(I)I"⟩
abbrev b_K_linesOf : ByteArray := prog_6_method_10_code
def y_K_linesOf : MethodName := ⟨R_K, "linesOf", "(I)I"⟩
abbrev b_K_weightOf : ByteArray := prog_6_method_11_code
def y_K_weightOf : MethodName := ⟨R_K, "weightOf", "(I)I"⟩
abbrev b_K_piecesOf : ByteArray := prog_6_method_12_code
def y_K_piecesOf : MethodName := ⟨R_K, "piecesOf", "(I)I"⟩
abbrev b_K_belowOf : ByteArray := prog_6_method_13_code
def y_K_belowOf : MethodName := ⟨R_K, "belowOf", "(I)I"⟩
abbrev b_K_differs : ByteArray := prog_6_method_14_code
def y_K_differs : MethodName := ⟨R_K, "differs", "(I)I"⟩
abbrev b_K_billsOf : ByteArray := prog_6_method_15_code
def y_K_billsOf : MethodName := ⟨R_K, "billsOf", "(I)I"⟩
abbrev b_K_boxesOf : ByteArray := prog_6_method_16_code
def y_K_boxesOf : MethodName := ⟨R_K, "boxesOf", "(I)I"⟩
abbrev b_K_landedWeight : ByteArray := prog_6_method_17_code
def y_K_landedWeight : MethodName := ⟨R_K, "landedWeight", "(I)I"⟩
abbrev b_K_waitsNow : ByteArray := prog_6_method_18_code
def y_K_waitsNow : MethodName := ⟨R_K, "waitsNow", "(I)Z"⟩
abbrev b_K_make : ByteArray := prog_6_method_19_code
def y_K_make : MethodName := ⟨R_K, "make", "(III)I"⟩
abbrev b_K_bill : ByteArray := prog_6_method_20_code
def y_K_bill : MethodName := ⟨R_K, "bill", "(III)I"⟩
abbrev b_K_add : ByteArray := prog_6_method_21_code
def y_K_add : MethodName := ⟨R_K, "add", "(III)I"⟩
abbrev b_K_line : ByteArray := prog_6_method_22_code
def y_K_line : MethodName := ⟨R_K, "line", "(III)I"⟩
abbrev b_K_box : ByteArray := prog_6_method_23_code
def y_K_box : MethodName := ⟨R_K, "box", "(III)I"⟩
abbrev b_K_on : ByteArray := prog_6_method_24_code
def y_K_on : MethodName := ⟨R_K, "on", "(II)Z"⟩
abbrev b_K_land : ByteArray := prog_6_method_25_code
def y_K_land : MethodName := ⟨R_K, "land", "(II)Z"⟩
abbrev b_K_arrive : ByteArray := prog_6_method_26_code
def y_K_arrive : MethodName := ⟨R_K, "arrive", "(I)Z"⟩
abbrev b_K_lineAt : ByteArray := prog_6_method_27_code
def y_K_lineAt : MethodName := ⟨R_K, "lineAt", "(II)I"⟩
abbrev b_K_amend : ByteArray := prog_6_method_28_code
def y_K_amend : MethodName := ⟨R_K, "amend", "(III)I"⟩
abbrev b_K_isHolder : ByteArray := prog_6_method_29_code
def y_K_isHolder : MethodName := ⟨R_K, "isHolder", "(I)Z"⟩
abbrev b_K_title : ByteArray := prog_6_method_30_code
def y_K_title : MethodName := ⟨R_K, "title", "(III)I"⟩
abbrev b_K_order : ByteArray := prog_6_method_31_code
def y_K_order : MethodName := ⟨R_K, "order", "(III)I"⟩
abbrev b_K_split : ByteArray := prog_6_method_32_code
def y_K_split : MethodName := ⟨R_K, "split", "(II)I"⟩
abbrev b_K_previousOf : ByteArray := prog_6_method_33_code
def y_K_previousOf : MethodName := ⟨R_K, "previousOf", "(I)I"⟩
abbrev b_K_firstOf : ByteArray := prog_6_method_34_code
def y_K_firstOf : MethodName := ⟨R_K, "firstOf", "(I)I"⟩
abbrev b_K_leg : ByteArray := prog_6_method_35_code
def y_K_leg : MethodName := ⟨R_K, "leg", "(II)Z"⟩
abbrev b_K_look : ByteArray := prog_6_method_36_code
def y_K_look : MethodName := ⟨R_K, "look", "(II)I"⟩
abbrev b_K_seen : ByteArray := prog_6_method_37_code
def y_K_seen : MethodName := ⟨R_K, "seen", "(II)I"⟩
abbrev b_K_waits : ByteArray := prog_6_method_38_code
def y_K_waits : MethodName := ⟨R_K, "waits", "(I)I"⟩
abbrev b_K_isLike : ByteArray := prog_6_method_39_code
def y_K_isLike : MethodName := ⟨R_K, "isLike", "(II)Z"⟩
abbrev b_K_like : ByteArray := prog_6_method_40_code
def y_K_like : MethodName := ⟨R_K, "like", "(III)I"⟩
abbrev b_K_differing : ByteArray := prog_6_method_41_code
def y_K_differing : MethodName := ⟨R_K, "differing", "()I"⟩
abbrev b_K_count : ByteArray := prog_6_method_42_code
def y_K_count : MethodName := ⟨R_K, "count", "(I)I"⟩
abbrev b_L_bill : ByteArray := method_3_code
def y_L_bill : MethodName := ⟨R_L, "bill", "(LBillMatch;III[J)I"⟩
abbrev b_L_line : ByteArray := method_4_code
def y_L_line : MethodName := ⟨R_L, "line", "(LBillMatch;III[J)I"⟩
abbrev b_L_box : ByteArray := method_5_code
def y_L_box : MethodName := ⟨R_L, "box", "(LBillMatch;III[J)I"⟩
abbrev b_L_amend : ByteArray := method_6_code
def y_L_amend : MethodName := ⟨R_L, "amend", "(LBillMatch;III[J)I"⟩
abbrev b_L_title : ByteArray := method_7_code
def y_L_title : MethodName := ⟨R_L, "title", "(LBillMatch;III[J)I"⟩
abbrev b_L_order : ByteArray := method_8_code
def y_L_order : MethodName := ⟨R_L, "order", "(LBillMatch;III[J)I"⟩
abbrev b_L_split : ByteArray := method_9_code
def y_L_split : MethodName := ⟨R_L, "split", "(LBillMatch;II[J)I"⟩
abbrev b_L_look : ByteArray := method_10_code
def y_L_look : MethodName := ⟨R_L, "look", "(LBillMatch;II[J)I"⟩
abbrev b_L_seen : ByteArray := method_11_code
def y_L_seen : MethodName := ⟨R_L, "seen", "(LBillMatch;II[J)I"⟩
abbrev b_L_like : ByteArray := method_12_code
def y_L_like : MethodName := ⟨R_L, "like", "(LBillMatch;III[J)I"⟩
abbrev b_L_law : ByteArray := code
abbrev b_J_bitCount : ByteArray := prog_11_method_50_code
def y_J_bitCount : MethodName := ⟨R_J, "bitCount", "(J)I"⟩
end
section
theorem d_M_init_0 : decode b_M_init 0 = .ok (.aload_n 0, 1) := by decide +kernel
theorem d_M_init_1 : decode b_M_init 1 = .ok (.invokespecial 3, 3) := by decide +kernel
theorem d_M_init_4 : decode b_M_init 4 = .ok (.aload_n 0, 1) := by decide +kernel
theorem d_M_init_5 : decode b_M_init 5 = .ok (.new 9, 3) := by decide +kernel
theorem d_M_init_8 : decode b_M_init 8 = .ok (.dup, 1) := by decide +kernel
theorem d_M_init_9 : decode b_M_init 9 = .ok (.invokespecial 11, 3) := by decide +kernel
theorem d_M_init_12 : decode b_M_init 12 = .ok (.putfield 12, 3) := by decide +kernel
theorem d_M_init_15 : decode b_M_init 15 = .ok (.aload_n 0, 1) := by decide +kernel
theorem d_M_init_16 : decode b_M_init 16 = .ok (.new 16, 3) := by decide +kernel
theorem d_M_init_19 : decode b_M_init 19 = .ok (.dup, 1) := by decide +kernel
theorem d_M_init_20 : decode b_M_init 20 = .ok (.invokespecial 18, 3) := by decide +kernel
theorem d_M_init_23 : decode b_M_init 23 = .ok (.putfield 19, 3) := by decide +kernel
theorem d_M_init_26 : decode b_M_init 26 = .ok (.aload_n 0, 1) := by decide +kernel
theorem d_M_init_27 : decode b_M_init 27 = .ok (.new 23, 3) := by decide +kernel
theorem d_M_init_30 : decode b_M_init 30 = .ok (.dup, 1) := by decide +kernel
theorem d_M_init_31 : decode b_M_init 31 = .ok (.invokespecial 25, 3) := by decide +kernel
theorem d_M_init_34 : decode b_M_init 34 = .ok (.putfield 26, 3) := by decide +kernel
theorem d_M_init_37 : decode b_M_init 37 = .ok (.aload_n 0, 1) := by decide +kernel
theorem d_M_init_38 : decode b_M_init 38 = .ok (.iconst 0, 1) := by decide +kernel
theorem d_M_init_39 : decode b_M_init 39 = .ok (.putfield 30, 3) := by decide +kernel
theorem d_M_init_42 : decode b_M_init 42 = .ok (.aload_n 0, 1) := by decide +kernel
theorem d_M_init_43 : decode b_M_init 43 = .ok (.iconst 0, 1) := by decide +kernel
theorem d_M_init_44 : decode b_M_init 44 = .ok (.putfield 34, 3) := by decide +kernel
theorem d_M_init_47 : decode b_M_init 47 = .ok (.return_, 1) := by decide +kernel
theorem d_M_bill_0 : decode b_M_bill 0 = .ok (.iload_n 1, 1) := by decide +kernel
theorem d_M_bill_1 : decode b_M_bill 1 = .ok (.invokestatic 37, 3) := by decide +kernel
theorem d_M_bill_4 : decode b_M_bill 4 = .ok (.ifCond .eq 10, 3) := by decide +kernel
theorem d_M_bill_7 : decode b_M_bill 7 = .ok (.iload_n 2, 1) := by decide +kernel
theorem d_M_bill_8 : decode b_M_bill 8 = .ok (.invokestatic 41, 3) := by decide +kernel
theorem d_M_bill_11 : decode b_M_bill 11 = .ok (.ifCond .ne 13, 3) := by decide +kernel
theorem d_M_bill_14 : decode b_M_bill 14 = .ok (.new 44, 3) := by decide +kernel
theorem d_M_bill_17 : decode b_M_bill 17 = .ok (.dup, 1) := by decide +kernel
theorem d_M_bill_18 : decode b_M_bill 18 = .ok (.ldc 46, 2) := by decide +kernel
theorem d_M_bill_20 : decode b_M_bill 20 = .ok (.invokespecial 48, 3) := by decide +kernel
theorem d_M_bill_23 : decode b_M_bill 23 = .ok (.athrow, 1) := by decide +kernel
theorem d_M_bill_24 : decode b_M_bill 24 = .ok (.aload_n 0, 1) := by decide +kernel
theorem d_M_bill_25 : decode b_M_bill 25 = .ok (.getfield 12, 3) := by decide +kernel
theorem d_M_bill_28 : decode b_M_bill 28 = .ok (.invokevirtual 51, 3) := by decide +kernel
theorem d_M_bill_31 : decode b_M_bill 31 = .ok (.ifCond .eq 13, 3) := by decide +kernel
theorem d_M_bill_34 : decode b_M_bill 34 = .ok (.new 55, 3) := by decide +kernel
theorem d_M_bill_37 : decode b_M_bill 37 = .ok (.dup, 1) := by decide +kernel
theorem d_M_bill_38 : decode b_M_bill 38 = .ok (.ldc 57, 2) := by decide +kernel
theorem d_M_bill_40 : decode b_M_bill 40 = .ok (.invokespecial 59, 3) := by decide +kernel
theorem d_M_bill_43 : decode b_M_bill 43 = .ok (.athrow, 1) := by decide +kernel
theorem d_M_bill_44 : decode b_M_bill 44 = .ok (.aload_n 0, 1) := by decide +kernel
theorem d_M_bill_45 : decode b_M_bill 45 = .ok (.getfield 12, 3) := by decide +kernel
theorem d_M_bill_48 : decode b_M_bill 48 = .ok (.iload_n 1, 1) := by decide +kernel
theorem d_M_bill_49 : decode b_M_bill 49 = .ok (.iload_n 3, 1) := by decide +kernel
theorem d_M_bill_50 : decode b_M_bill 50 = .ok (.invokevirtual 60, 3) := by decide +kernel
theorem d_M_bill_53 : decode b_M_bill 53 = .ok (.ifCond .eq 15, 3) := by decide +kernel
theorem d_M_bill_56 : decode b_M_bill 56 = .ok (.aload_n 0, 1) := by decide +kernel
theorem d_M_bill_57 : decode b_M_bill 57 = .ok (.getfield 12, 3) := by decide +kernel
theorem d_M_bill_60 : decode b_M_bill 60 = .ok (.iload_n 1, 1) := by decide +kernel
theorem d_M_bill_61 : decode b_M_bill 61 = .ok (.iload_n 2, 1) := by decide +kernel
theorem d_M_bill_62 : decode b_M_bill 62 = .ok (.invokevirtual 64, 3) := by decide +kernel
theorem d_M_bill_65 : decode b_M_bill 65 = .ok (.ifCond .eq 5, 3) := by decide +kernel
theorem d_M_bill_68 : decode b_M_bill 68 = .ok (.iconst (-1), 1) := by decide +kernel
theorem d_M_bill_69 : decode b_M_bill 69 = .ok (.ireturn, 1) := by decide +kernel
theorem d_M_bill_70 : decode b_M_bill 70 = .ok (.aload_n 0, 1) := by decide +kernel
theorem d_M_bill_71 : decode b_M_bill 71 = .ok (.getfield 12, 3) := by decide +kernel
theorem d_M_bill_74 : decode b_M_bill 74 = .ok (.iload_n 1, 1) := by decide +kernel
theorem d_M_bill_75 : decode b_M_bill 75 = .ok (.iload_n 2, 1) := by decide +kernel
theorem d_M_bill_76 : decode b_M_bill 76 = .ok (.iload_n 3, 1) := by decide +kernel
theorem d_M_bill_77 : decode b_M_bill 77 = .ok (.iconst 0, 1) := by decide +kernel
theorem d_M_bill_78 : decode b_M_bill 78 = .ok (.invokevirtual 67, 3) := by decide +kernel
theorem d_M_bill_81 : decode b_M_bill 81 = .ok (.ireturn, 1) := by decide +kernel
theorem d_M_line_0 : decode b_M_line 0 = .ok (.aload_n 0, 1) := by decide +kernel
theorem d_M_line_1 : decode b_M_line 1 = .ok (.getfield 12, 3) := by decide +kernel
theorem d_M_line_4 : decode b_M_line 4 = .ok (.iload_n 1, 1) := by decide +kernel
theorem d_M_line_5 : decode b_M_line 5 = .ok (.invokevirtual 71, 3) := by decide +kernel
theorem d_M_line_8 : decode b_M_line 8 = .ok (.ifCond .eq 21, 3) := by decide +kernel
theorem d_M_line_11 : decode b_M_line 11 = .ok (.iload_n 2, 1) := by decide +kernel
theorem d_M_line_12 : decode b_M_line 12 = .ok (.invokestatic 74, 3) := by decide +kernel
theorem d_M_line_15 : decode b_M_line 15 = .ok (.ifCond .eq 14, 3) := by decide +kernel
theorem d_M_line_18 : decode b_M_line 18 = .ok (.iload_n 3, 1) := by decide +kernel
theorem d_M_line_19 : decode b_M_line 19 = .ok (.ifCond .lt 10, 3) := by decide +kernel
theorem d_M_line_22 : decode b_M_line 22 = .ok (.iload_n 3, 1) := by decide +kernel
theorem d_M_line_23 : decode b_M_line 23 = .ok (.sipush 10000, 3) := by decide +kernel
theorem d_M_line_26 : decode b_M_line 26 = .ok (.if_icmp .le 13, 3) := by decide +kernel
theorem d_M_line_29 : decode b_M_line 29 = .ok (.new 44, 3) := by decide +kernel
theorem d_M_line_32 : decode b_M_line 32 = .ok (.dup, 1) := by decide +kernel
theorem d_M_line_33 : decode b_M_line 33 = .ok (.ldc 77, 2) := by decide +kernel
theorem d_M_line_35 : decode b_M_line 35 = .ok (.invokespecial 48, 3) := by decide +kernel
theorem d_M_line_38 : decode b_M_line 38 = .ok (.athrow, 1) := by decide +kernel
theorem d_M_line_39 : decode b_M_line 39 = .ok (.aload_n 0, 1) := by decide +kernel
theorem d_M_line_40 : decode b_M_line 40 = .ok (.getfield 19, 3) := by decide +kernel
theorem d_M_line_43 : decode b_M_line 43 = .ok (.invokevirtual 79, 3) := by decide +kernel
theorem d_M_line_46 : decode b_M_line 46 = .ok (.ifCond .eq 13, 3) := by decide +kernel
theorem d_M_line_49 : decode b_M_line 49 = .ok (.new 55, 3) := by decide +kernel
theorem d_M_line_52 : decode b_M_line 52 = .ok (.dup, 1) := by decide +kernel
theorem d_M_line_53 : decode b_M_line 53 = .ok (.ldc 80, 2) := by decide +kernel
theorem d_M_line_55 : decode b_M_line 55 = .ok (.invokespecial 59, 3) := by decide +kernel
theorem d_M_line_58 : decode b_M_line 58 = .ok (.athrow, 1) := by decide +kernel
theorem d_M_line_59 : decode b_M_line 59 = .ok (.aload_n 0, 1) := by decide +kernel
theorem d_M_line_60 : decode b_M_line 60 = .ok (.getfield 19, 3) := by decide +kernel
theorem d_M_line_63 : decode b_M_line 63 = .ok (.iload_n 1, 1) := by decide +kernel
theorem d_M_line_64 : decode b_M_line 64 = .ok (.iload_n 2, 1) := by decide +kernel
theorem d_M_line_65 : decode b_M_line 65 = .ok (.iload_n 3, 1) := by decide +kernel
theorem d_M_line_66 : decode b_M_line 66 = .ok (.invokevirtual 82, 3) := by decide +kernel
theorem d_M_line_69 : decode b_M_line 69 = .ok (.ireturn, 1) := by decide +kernel
theorem d_M_box_0 : decode b_M_box 0 = .ok (.iload_n 1, 1) := by decide +kernel
theorem d_M_box_1 : decode b_M_box 1 = .ok (.invokestatic 37, 3) := by decide +kernel
theorem d_M_box_4 : decode b_M_box 4 = .ok (.ifCond .eq 17, 3) := by decide +kernel
theorem d_M_box_7 : decode b_M_box 7 = .ok (.iload_n 2, 1) := by decide +kernel
theorem d_M_box_8 : decode b_M_box 8 = .ok (.invokestatic 41, 3) := by decide +kernel
theorem d_M_box_11 : decode b_M_box 11 = .ok (.ifCond .eq 10, 3) := by decide +kernel
theorem d_M_box_14 : decode b_M_box 14 = .ok (.iload_n 3, 1) := by decide +kernel
theorem d_M_box_15 : decode b_M_box 15 = .ok (.invokestatic 74, 3) := by decide +kernel
theorem d_M_box_18 : decode b_M_box 18 = .ok (.ifCond .ne 13, 3) := by decide +kernel
theorem d_M_box_21 : decode b_M_box 21 = .ok (.new 44, 3) := by decide +kernel
theorem d_M_box_24 : decode b_M_box 24 = .ok (.dup, 1) := by decide +kernel
theorem d_M_box_25 : decode b_M_box 25 = .ok (.ldc 85, 2) := by decide +kernel
theorem d_M_box_27 : decode b_M_box 27 = .ok (.invokespecial 48, 3) := by decide +kernel
theorem d_M_box_30 : decode b_M_box 30 = .ok (.athrow, 1) := by decide +kernel
theorem d_M_box_31 : decode b_M_box 31 = .ok (.aload_n 0, 1) := by decide +kernel
theorem d_M_box_32 : decode b_M_box 32 = .ok (.getfield 26, 3) := by decide +kernel
theorem d_M_box_35 : decode b_M_box 35 = .ok (.invokevirtual 87, 3) := by decide +kernel
theorem d_M_box_38 : decode b_M_box 38 = .ok (.ifCond .eq 13, 3) := by decide +kernel
theorem d_M_box_41 : decode b_M_box 41 = .ok (.new 55, 3) := by decide +kernel
theorem d_M_box_44 : decode b_M_box 44 = .ok (.dup, 1) := by decide +kernel
theorem d_M_box_45 : decode b_M_box 45 = .ok (.ldc 88, 2) := by decide +kernel
theorem d_M_box_47 : decode b_M_box 47 = .ok (.invokespecial 59, 3) := by decide +kernel
theorem d_M_box_50 : decode b_M_box 50 = .ok (.athrow, 1) := by decide +kernel
theorem d_M_box_51 : decode b_M_box 51 = .ok (.aload_n 0, 1) := by decide +kernel
theorem d_M_box_52 : decode b_M_box 52 = .ok (.getfield 26, 3) := by decide +kernel
theorem d_M_box_55 : decode b_M_box 55 = .ok (.iload_n 1, 1) := by decide +kernel
theorem d_M_box_56 : decode b_M_box 56 = .ok (.iload_n 2, 1) := by decide +kernel
theorem d_M_box_57 : decode b_M_box 57 = .ok (.invokevirtual 90, 3) := by decide +kernel
theorem d_M_box_60 : decode b_M_box 60 = .ok (.ifCond .eq 5, 3) := by decide +kernel
theorem d_M_box_63 : decode b_M_box 63 = .ok (.iconst (-1), 1) := by decide +kernel
theorem d_M_box_64 : decode b_M_box 64 = .ok (.ireturn, 1) := by decide +kernel
theorem d_M_box_65 : decode b_M_box 65 = .ok (.aload_n 0, 1) := by decide +kernel
theorem d_M_box_66 : decode b_M_box 66 = .ok (.getfield 26, 3) := by decide +kernel
theorem d_M_box_69 : decode b_M_box 69 = .ok (.iload_n 1, 1) := by decide +kernel
theorem d_M_box_70 : decode b_M_box 70 = .ok (.iload_n 2, 1) := by decide +kernel
theorem d_M_box_71 : decode b_M_box 71 = .ok (.iload_n 3, 1) := by decide +kernel
theorem d_M_box_72 : decode b_M_box 72 = .ok (.invokevirtual 91, 3) := by decide +kernel
theorem d_M_box_75 : decode b_M_box 75 = .ok (.ireturn, 1) := by decide +kernel
theorem d_M_on_0 : decode b_M_on 0 = .ok (.aload_n 0, 1) := by decide +kernel
theorem d_M_on_1 : decode b_M_on 1 = .ok (.getfield 26, 3) := by decide +kernel
theorem d_M_on_4 : decode b_M_on 4 = .ok (.iload_n 1, 1) := by decide +kernel
theorem d_M_on_5 : decode b_M_on 5 = .ok (.invokevirtual 92, 3) := by decide +kernel
theorem d_M_on_8 : decode b_M_on 8 = .ok (.ifCond .eq 35, 3) := by decide +kernel
theorem d_M_on_11 : decode b_M_on 11 = .ok (.aload_n 0, 1) := by decide +kernel
theorem d_M_on_12 : decode b_M_on 12 = .ok (.getfield 12, 3) := by decide +kernel
theorem d_M_on_15 : decode b_M_on 15 = .ok (.iload_n 2, 1) := by decide +kernel
theorem d_M_on_16 : decode b_M_on 16 = .ok (.invokevirtual 71, 3) := by decide +kernel
theorem d_M_on_19 : decode b_M_on 19 = .ok (.ifCond .eq 24, 3) := by decide +kernel
theorem d_M_on_22 : decode b_M_on 22 = .ok (.aload_n 0, 1) := by decide +kernel
theorem d_M_on_23 : decode b_M_on 23 = .ok (.getfield 26, 3) := by decide +kernel
theorem d_M_on_26 : decode b_M_on 26 = .ok (.getfield 93, 3) := by decide +kernel
theorem d_M_on_29 : decode b_M_on 29 = .ok (.iload_n 1, 1) := by decide +kernel
theorem d_M_on_30 : decode b_M_on 30 = .ok (.iaload, 1) := by decide +kernel
theorem d_M_on_31 : decode b_M_on 31 = .ok (.aload_n 0, 1) := by decide +kernel
theorem d_M_on_32 : decode b_M_on 32 = .ok (.getfield 12, 3) := by decide +kernel
theorem d_M_on_35 : decode b_M_on 35 = .ok (.getfield 97, 3) := by decide +kernel
theorem d_M_on_38 : decode b_M_on 38 = .ok (.iload_n 2, 1) := by decide +kernel
theorem d_M_on_39 : decode b_M_on 39 = .ok (.iaload, 1) := by decide +kernel
theorem d_M_on_40 : decode b_M_on 40 = .ok (.if_icmp .eq 5, 3) := by decide +kernel
theorem d_M_on_43 : decode b_M_on 43 = .ok (.iconst 0, 1) := by decide +kernel
theorem d_M_on_44 : decode b_M_on 44 = .ok (.ireturn, 1) := by decide +kernel
theorem d_M_on_45 : decode b_M_on 45 = .ok (.aload_n 0, 1) := by decide +kernel
theorem d_M_on_46 : decode b_M_on 46 = .ok (.getfield 26, 3) := by decide +kernel
theorem d_M_on_49 : decode b_M_on 49 = .ok (.iload_n 1, 1) := by decide +kernel
theorem d_M_on_50 : decode b_M_on 50 = .ok (.iload_n 2, 1) := by decide +kernel
theorem d_M_on_51 : decode b_M_on 51 = .ok (.invokevirtual 98, 3) := by decide +kernel
theorem d_M_on_54 : decode b_M_on 54 = .ok (.ifCond .ne 26, 3) := by decide +kernel
theorem d_M_on_57 : decode b_M_on 57 = .ok (.aload_n 0, 1) := by decide +kernel
theorem d_M_on_58 : decode b_M_on 58 = .ok (.getfield 26, 3) := by decide +kernel
theorem d_M_on_61 : decode b_M_on 61 = .ok (.iload_n 1, 1) := by decide +kernel
theorem d_M_on_62 : decode b_M_on 62 = .ok (.invokevirtual 101, 3) := by decide +kernel
theorem d_M_on_65 : decode b_M_on 65 = .ok (.iconst 4, 1) := by decide +kernel
theorem d_M_on_66 : decode b_M_on 66 = .ok (.if_icmp .ge 14, 3) := by decide +kernel
theorem d_M_on_69 : decode b_M_on 69 = .ok (.aload_n 0, 1) := by decide +kernel
theorem d_M_on_70 : decode b_M_on 70 = .ok (.getfield 26, 3) := by decide +kernel
theorem d_M_on_73 : decode b_M_on 73 = .ok (.iload_n 1, 1) := by decide +kernel
theorem d_M_on_74 : decode b_M_on 74 = .ok (.invokevirtual 105, 3) := by decide +kernel
theorem d_M_on_77 : decode b_M_on 77 = .ok (.ifCond .eq 5, 3) := by decide +kernel
theorem d_M_on_80 : decode b_M_on 80 = .ok (.iconst 0, 1) := by decide +kernel
theorem d_M_on_81 : decode b_M_on 81 = .ok (.ireturn, 1) := by decide +kernel
theorem d_M_on_82 : decode b_M_on 82 = .ok (.aload_n 0, 1) := by decide +kernel
theorem d_M_on_83 : decode b_M_on 83 = .ok (.getfield 26, 3) := by decide +kernel
theorem d_M_on_86 : decode b_M_on 86 = .ok (.iload_n 1, 1) := by decide +kernel
theorem d_M_on_87 : decode b_M_on 87 = .ok (.iload_n 2, 1) := by decide +kernel
theorem d_M_on_88 : decode b_M_on 88 = .ok (.invokevirtual 108, 3) := by decide +kernel
theorem d_M_on_91 : decode b_M_on 91 = .ok (.iconst 1, 1) := by decide +kernel
theorem d_M_on_92 : decode b_M_on 92 = .ok (.ireturn, 1) := by decide +kernel
theorem d_M_land_0 : decode b_M_land 0 = .ok (.aload_n 0, 1) := by decide +kernel
theorem d_M_land_1 : decode b_M_land 1 = .ok (.getfield 26, 3) := by decide +kernel
theorem d_M_land_4 : decode b_M_land 4 = .ok (.iload_n 1, 1) := by decide +kernel
theorem d_M_land_5 : decode b_M_land 5 = .ok (.invokevirtual 92, 3) := by decide +kernel
theorem d_M_land_8 : decode b_M_land 8 = .ok (.ifCond .eq 21, 3) := by decide +kernel
theorem d_M_land_11 : decode b_M_land 11 = .ok (.aload_n 0, 1) := by decide +kernel
theorem d_M_land_12 : decode b_M_land 12 = .ok (.getfield 26, 3) := by decide +kernel
theorem d_M_land_15 : decode b_M_land 15 = .ok (.iload_n 1, 1) := by decide +kernel
theorem d_M_land_16 : decode b_M_land 16 = .ok (.invokevirtual 112, 3) := by decide +kernel
theorem d_M_land_19 : decode b_M_land 19 = .ok (.ifCond .ne 10, 3) := by decide +kernel
theorem d_M_land_22 : decode b_M_land 22 = .ok (.iload_n 2, 1) := by decide +kernel
theorem d_M_land_23 : decode b_M_land 23 = .ok (.invokestatic 74, 3) := by decide +kernel
theorem d_M_land_26 : decode b_M_land 26 = .ok (.ifCond .ne 5, 3) := by decide +kernel
theorem d_M_land_29 : decode b_M_land 29 = .ok (.iconst 0, 1) := by decide +kernel
theorem d_M_land_30 : decode b_M_land 30 = .ok (.ireturn, 1) := by decide +kernel
theorem d_M_land_31 : decode b_M_land 31 = .ok (.aload_n 0, 1) := by decide +kernel
theorem d_M_land_32 : decode b_M_land 32 = .ok (.getfield 26, 3) := by decide +kernel
theorem d_M_land_35 : decode b_M_land 35 = .ok (.getfield 115, 3) := by decide +kernel
theorem d_M_land_38 : decode b_M_land 38 = .ok (.iload_n 1, 1) := by decide +kernel
theorem d_M_land_39 : decode b_M_land 39 = .ok (.iload_n 2, 1) := by decide +kernel
theorem d_M_land_40 : decode b_M_land 40 = .ok (.iastore, 1) := by decide +kernel
theorem d_M_land_41 : decode b_M_land 41 = .ok (.iconst 1, 1) := by decide +kernel
theorem d_M_land_42 : decode b_M_land 42 = .ok (.ireturn, 1) := by decide +kernel
theorem d_M_arrive_0 : decode b_M_arrive 0 = .ok (.iload_n 1, 1) := by decide +kernel
theorem d_M_arrive_1 : decode b_M_arrive 1 = .ok (.invokestatic 37, 3) := by decide +kernel
theorem d_M_arrive_4 : decode b_M_arrive 4 = .ok (.ifCond .eq 11, 3) := by decide +kernel
theorem d_M_arrive_7 : decode b_M_arrive 7 = .ok (.aload_n 0, 1) := by decide +kernel
theorem d_M_arrive_8 : decode b_M_arrive 8 = .ok (.iload_n 1, 1) := by decide +kernel
theorem d_M_arrive_9 : decode b_M_arrive 9 = .ok (.invokevirtual 118, 3) := by decide +kernel
theorem d_M_arrive_12 : decode b_M_arrive 12 = .ok (.ifCond .eq 5, 3) := by decide +kernel
theorem d_M_arrive_15 : decode b_M_arrive 15 = .ok (.iconst 0, 1) := by decide +kernel
theorem d_M_arrive_16 : decode b_M_arrive 16 = .ok (.ireturn, 1) := by decide +kernel
theorem d_M_arrive_17 : decode b_M_arrive 17 = .ok (.aload_n 0, 1) := by decide +kernel
theorem d_M_arrive_18 : decode b_M_arrive 18 = .ok (.dup, 1) := by decide +kernel
theorem d_M_arrive_19 : decode b_M_arrive 19 = .ok (.getfield 30, 3) := by decide +kernel
theorem d_M_arrive_22 : decode b_M_arrive 22 = .ok (.iconst 1, 1) := by decide +kernel
theorem d_M_arrive_23 : decode b_M_arrive 23 = .ok (.iload_n 1, 1) := by decide +kernel
theorem d_M_arrive_24 : decode b_M_arrive 24 = .ok (.ishl, 1) := by decide +kernel
theorem d_M_arrive_25 : decode b_M_arrive 25 = .ok (.ior, 1) := by decide +kernel
theorem d_M_arrive_26 : decode b_M_arrive 26 = .ok (.putfield 30, 3) := by decide +kernel
theorem d_M_arrive_29 : decode b_M_arrive 29 = .ok (.iconst 1, 1) := by decide +kernel
theorem d_M_arrive_30 : decode b_M_arrive 30 = .ok (.ireturn, 1) := by decide +kernel
theorem d_M_amend_0 : decode b_M_amend 0 = .ok (.aload_n 0, 1) := by decide +kernel
theorem d_M_amend_1 : decode b_M_amend 1 = .ok (.getfield 12, 3) := by decide +kernel
theorem d_M_amend_4 : decode b_M_amend 4 = .ok (.iload_n 1, 1) := by decide +kernel
theorem d_M_amend_5 : decode b_M_amend 5 = .ok (.invokevirtual 71, 3) := by decide +kernel
theorem d_M_amend_8 : decode b_M_amend 8 = .ok (.ifCond .eq 15, 3) := by decide +kernel
theorem d_M_amend_11 : decode b_M_amend 11 = .ok (.aload_n 0, 1) := by decide +kernel
theorem d_M_amend_12 : decode b_M_amend 12 = .ok (.getfield 19, 3) := by decide +kernel
theorem d_M_amend_15 : decode b_M_amend 15 = .ok (.iload_n 1, 1) := by decide +kernel
theorem d_M_amend_16 : decode b_M_amend 16 = .ok (.iload_n 2, 1) := by decide +kernel
theorem d_M_amend_17 : decode b_M_amend 17 = .ok (.invokevirtual 121, 3) := by decide +kernel
theorem d_M_amend_20 : decode b_M_amend 20 = .ok (.goto 4, 3) := by decide +kernel
theorem d_M_amend_23 : decode b_M_amend 23 = .ok (.iconst (-1), 1) := by decide +kernel
theorem d_M_amend_24 : decode b_M_amend 24 = .ok (.istore 4, 2) := by decide +kernel
theorem d_M_amend_26 : decode b_M_amend 26 = .ok (.iload 4, 2) := by decide +kernel
theorem d_M_amend_28 : decode b_M_amend 28 = .ok (.iconst (-1), 1) := by decide +kernel
theorem d_M_amend_29 : decode b_M_amend 29 = .ok (.if_icmp .eq 10, 3) := by decide +kernel
theorem d_M_amend_32 : decode b_M_amend 32 = .ok (.iload_n 3, 1) := by decide +kernel
theorem d_M_amend_33 : decode b_M_amend 33 = .ok (.invokestatic 74, 3) := by decide +kernel
theorem d_M_amend_36 : decode b_M_amend 36 = .ok (.ifCond .ne 13, 3) := by decide +kernel
theorem d_M_amend_39 : decode b_M_amend 39 = .ok (.new 44, 3) := by decide +kernel
theorem d_M_amend_42 : decode b_M_amend 42 = .ok (.dup, 1) := by decide +kernel
theorem d_M_amend_43 : decode b_M_amend 43 = .ok (.ldc 125, 2) := by decide +kernel
theorem d_M_amend_45 : decode b_M_amend 45 = .ok (.invokespecial 48, 3) := by decide +kernel
theorem d_M_amend_48 : decode b_M_amend 48 = .ok (.athrow, 1) := by decide +kernel
theorem d_M_amend_49 : decode b_M_amend 49 = .ok (.aload_n 0, 1) := by decide +kernel
theorem d_M_amend_50 : decode b_M_amend 50 = .ok (.getfield 19, 3) := by decide +kernel
theorem d_M_amend_53 : decode b_M_amend 53 = .ok (.iload 4, 2) := by decide +kernel
theorem d_M_amend_55 : decode b_M_amend 55 = .ok (.iload_n 3, 1) := by decide +kernel
theorem d_M_amend_56 : decode b_M_amend 56 = .ok (.invokevirtual 127, 3) := by decide +kernel
theorem d_M_amend_59 : decode b_M_amend 59 = .ok (.istore 5, 2) := by decide +kernel
theorem d_M_amend_61 : decode b_M_amend 61 = .ok (.iload 5, 2) := by decide +kernel
theorem d_M_amend_63 : decode b_M_amend 63 = .ok (.ifCond .eq 19, 3) := by decide +kernel
theorem d_M_amend_66 : decode b_M_amend 66 = .ok (.aload_n 0, 1) := by decide +kernel
theorem d_M_amend_67 : decode b_M_amend 67 = .ok (.aload_n 0, 1) := by decide +kernel
theorem d_M_amend_68 : decode b_M_amend 68 = .ok (.getfield 12, 3) := by decide +kernel
theorem d_M_amend_71 : decode b_M_amend 71 = .ok (.getfield 97, 3) := by decide +kernel
theorem d_M_amend_74 : decode b_M_amend 74 = .ok (.iload_n 1, 1) := by decide +kernel
theorem d_M_amend_75 : decode b_M_amend 75 = .ok (.iaload, 1) := by decide +kernel
theorem d_M_amend_76 : decode b_M_amend 76 = .ok (.invokevirtual 118, 3) := by decide +kernel
theorem d_M_amend_79 : decode b_M_amend 79 = .ok (.ifCond .ne 5, 3) := by decide +kernel
theorem d_M_amend_82 : decode b_M_amend 82 = .ok (.iconst 0, 1) := by decide +kernel
theorem d_M_amend_83 : decode b_M_amend 83 = .ok (.ireturn, 1) := by decide +kernel
theorem d_M_amend_84 : decode b_M_amend 84 = .ok (.bipush 100, 2) := by decide +kernel
theorem d_M_amend_86 : decode b_M_amend 86 = .ok (.iload 5, 2) := by decide +kernel
theorem d_M_amend_88 : decode b_M_amend 88 = .ok (.invokestatic 130, 3) := by decide +kernel
theorem d_M_amend_91 : decode b_M_amend 91 = .ok (.sipush 1000, 3) := by decide +kernel
theorem d_M_amend_94 : decode b_M_amend 94 = .ok (.idiv, 1) := by decide +kernel
theorem d_M_amend_95 : decode b_M_amend 95 = .ok (.iadd, 1) := by decide +kernel
theorem d_M_amend_96 : decode b_M_amend 96 = .ok (.istore 6, 2) := by decide +kernel
theorem d_M_amend_98 : decode b_M_amend 98 = .ok (.aload_n 0, 1) := by decide +kernel
theorem d_M_amend_99 : decode b_M_amend 99 = .ok (.dup, 1) := by decide +kernel
theorem d_M_amend_100 : decode b_M_amend 100 = .ok (.getfield 34, 3) := by decide +kernel
theorem d_M_amend_103 : decode b_M_amend 103 = .ok (.iload 6, 2) := by decide +kernel
theorem d_M_amend_105 : decode b_M_amend 105 = .ok (.iadd, 1) := by decide +kernel
theorem d_M_amend_106 : decode b_M_amend 106 = .ok (.putfield 34, 3) := by decide +kernel
theorem d_M_amend_109 : decode b_M_amend 109 = .ok (.iload 6, 2) := by decide +kernel
theorem d_M_amend_111 : decode b_M_amend 111 = .ok (.ireturn, 1) := by decide +kernel
theorem d_M_title_0 : decode b_M_title 0 = .ok (.aload_n 0, 1) := by decide +kernel
theorem d_M_title_1 : decode b_M_title 1 = .ok (.getfield 12, 3) := by decide +kernel
theorem d_M_title_4 : decode b_M_title 4 = .ok (.iload_n 1, 1) := by decide +kernel
theorem d_M_title_5 : decode b_M_title 5 = .ok (.invokevirtual 71, 3) := by decide +kernel
theorem d_M_title_8 : decode b_M_title 8 = .ok (.ifCond .eq 22, 3) := by decide +kernel
theorem d_M_title_11 : decode b_M_title 11 = .ok (.iload_n 2, 1) := by decide +kernel
theorem d_M_title_12 : decode b_M_title 12 = .ok (.invokestatic 135, 3) := by decide +kernel
theorem d_M_title_15 : decode b_M_title 15 = .ok (.ifCond .eq 15, 3) := by decide +kernel
theorem d_M_title_18 : decode b_M_title 18 = .ok (.iload_n 3, 1) := by decide +kernel
theorem d_M_title_19 : decode b_M_title 19 = .ok (.invokestatic 135, 3) := by decide +kernel
theorem d_M_title_22 : decode b_M_title 22 = .ok (.ifCond .eq 8, 3) := by decide +kernel
theorem d_M_title_25 : decode b_M_title 25 = .ok (.iload_n 2, 1) := by decide +kernel
theorem d_M_title_26 : decode b_M_title 26 = .ok (.iload_n 3, 1) := by decide +kernel
theorem d_M_title_27 : decode b_M_title 27 = .ok (.if_icmp .ne 13, 3) := by decide +kernel
theorem d_M_title_30 : decode b_M_title 30 = .ok (.new 44, 3) := by decide +kernel
theorem d_M_title_33 : decode b_M_title 33 = .ok (.dup, 1) := by decide +kernel
theorem d_M_title_34 : decode b_M_title 34 = .ok (.ldc 138, 2) := by decide +kernel
theorem d_M_title_36 : decode b_M_title 36 = .ok (.invokespecial 48, 3) := by decide +kernel
theorem d_M_title_39 : decode b_M_title 39 = .ok (.athrow, 1) := by decide +kernel
theorem d_M_title_40 : decode b_M_title 40 = .ok (.aload_n 0, 1) := by decide +kernel
theorem d_M_title_41 : decode b_M_title 41 = .ok (.getfield 12, 3) := by decide +kernel
theorem d_M_title_44 : decode b_M_title 44 = .ok (.getfield 140, 3) := by decide +kernel
theorem d_M_title_47 : decode b_M_title 47 = .ok (.iload_n 1, 1) := by decide +kernel
theorem d_M_title_48 : decode b_M_title 48 = .ok (.iaload, 1) := by decide +kernel
theorem d_M_title_49 : decode b_M_title 49 = .ok (.iload_n 2, 1) := by decide +kernel
theorem d_M_title_50 : decode b_M_title 50 = .ok (.if_icmp .ne 14, 3) := by decide +kernel
theorem d_M_title_53 : decode b_M_title 53 = .ok (.aload_n 0, 1) := by decide +kernel
theorem d_M_title_54 : decode b_M_title 54 = .ok (.getfield 12, 3) := by decide +kernel
theorem d_M_title_57 : decode b_M_title 57 = .ok (.iload_n 1, 1) := by decide +kernel
theorem d_M_title_58 : decode b_M_title 58 = .ok (.invokevirtual 143, 3) := by decide +kernel
theorem d_M_title_61 : decode b_M_title 61 = .ok (.ifCond .eq 5, 3) := by decide +kernel
theorem d_M_title_64 : decode b_M_title 64 = .ok (.iconst 0, 1) := by decide +kernel
theorem d_M_title_65 : decode b_M_title 65 = .ok (.ireturn, 1) := by decide +kernel
theorem d_M_title_66 : decode b_M_title 66 = .ok (.aload_n 0, 1) := by decide +kernel
theorem d_M_title_67 : decode b_M_title 67 = .ok (.getfield 12, 3) := by decide +kernel
theorem d_M_title_70 : decode b_M_title 70 = .ok (.getfield 140, 3) := by decide +kernel
theorem d_M_title_73 : decode b_M_title 73 = .ok (.iload_n 1, 1) := by decide +kernel
theorem d_M_title_74 : decode b_M_title 74 = .ok (.iload_n 3, 1) := by decide +kernel
theorem d_M_title_75 : decode b_M_title 75 = .ok (.iastore, 1) := by decide +kernel
theorem d_M_title_76 : decode b_M_title 76 = .ok (.iconst 1, 1) := by decide +kernel
theorem d_M_title_77 : decode b_M_title 77 = .ok (.ireturn, 1) := by decide +kernel
theorem d_M_order_0 : decode b_M_order 0 = .ok (.aload_n 0, 1) := by decide +kernel
theorem d_M_order_1 : decode b_M_order 1 = .ok (.getfield 12, 3) := by decide +kernel
theorem d_M_order_4 : decode b_M_order 4 = .ok (.iload_n 1, 1) := by decide +kernel
theorem d_M_order_5 : decode b_M_order 5 = .ok (.invokevirtual 71, 3) := by decide +kernel
theorem d_M_order_8 : decode b_M_order 8 = .ok (.ifCond .eq 21, 3) := by decide +kernel
theorem d_M_order_11 : decode b_M_order 11 = .ok (.aload_n 0, 1) := by decide +kernel
theorem d_M_order_12 : decode b_M_order 12 = .ok (.getfield 26, 3) := by decide +kernel
theorem d_M_order_15 : decode b_M_order 15 = .ok (.iload_n 2, 1) := by decide +kernel
theorem d_M_order_16 : decode b_M_order 16 = .ok (.invokevirtual 92, 3) := by decide +kernel
theorem d_M_order_19 : decode b_M_order 19 = .ok (.ifCond .eq 10, 3) := by decide +kernel
theorem d_M_order_22 : decode b_M_order 22 = .ok (.iload_n 3, 1) := by decide +kernel
theorem d_M_order_23 : decode b_M_order 23 = .ok (.invokestatic 135, 3) := by decide +kernel
theorem d_M_order_26 : decode b_M_order 26 = .ok (.ifCond .ne 13, 3) := by decide +kernel
theorem d_M_order_29 : decode b_M_order 29 = .ok (.new 44, 3) := by decide +kernel
theorem d_M_order_32 : decode b_M_order 32 = .ok (.dup, 1) := by decide +kernel
theorem d_M_order_33 : decode b_M_order 33 = .ok (.ldc 144, 2) := by decide +kernel
theorem d_M_order_35 : decode b_M_order 35 = .ok (.invokespecial 48, 3) := by decide +kernel
theorem d_M_order_38 : decode b_M_order 38 = .ok (.athrow, 1) := by decide +kernel
theorem d_M_order_39 : decode b_M_order 39 = .ok (.aload_n 0, 1) := by decide +kernel
theorem d_M_order_40 : decode b_M_order 40 = .ok (.getfield 26, 3) := by decide +kernel
theorem d_M_order_43 : decode b_M_order 43 = .ok (.iload_n 2, 1) := by decide +kernel
theorem d_M_order_44 : decode b_M_order 44 = .ok (.invokevirtual 105, 3) := by decide +kernel
theorem d_M_order_47 : decode b_M_order 47 = .ok (.ifCond .ne 26, 3) := by decide +kernel
theorem d_M_order_50 : decode b_M_order 50 = .ok (.aload_n 0, 1) := by decide +kernel
theorem d_M_order_51 : decode b_M_order 51 = .ok (.getfield 26, 3) := by decide +kernel
theorem d_M_order_54 : decode b_M_order 54 = .ok (.iload_n 2, 1) := by decide +kernel
theorem d_M_order_55 : decode b_M_order 55 = .ok (.iload_n 1, 1) := by decide +kernel
theorem d_M_order_56 : decode b_M_order 56 = .ok (.invokevirtual 98, 3) := by decide +kernel
theorem d_M_order_59 : decode b_M_order 59 = .ok (.ifCond .eq 14, 3) := by decide +kernel
theorem d_M_order_62 : decode b_M_order 62 = .ok (.aload_n 0, 1) := by decide +kernel
theorem d_M_order_63 : decode b_M_order 63 = .ok (.getfield 26, 3) := by decide +kernel
theorem d_M_order_66 : decode b_M_order 66 = .ok (.iload_n 2, 1) := by decide +kernel
theorem d_M_order_67 : decode b_M_order 67 = .ok (.invokevirtual 112, 3) := by decide +kernel
theorem d_M_order_70 : decode b_M_order 70 = .ok (.ifCond .ne 5, 3) := by decide +kernel
theorem d_M_order_73 : decode b_M_order 73 = .ok (.iconst 0, 1) := by decide +kernel
theorem d_M_order_74 : decode b_M_order 74 = .ok (.ireturn, 1) := by decide +kernel
theorem d_M_order_75 : decode b_M_order 75 = .ok (.aload_n 0, 1) := by decide +kernel
theorem d_M_order_76 : decode b_M_order 76 = .ok (.getfield 12, 3) := by decide +kernel
theorem d_M_order_79 : decode b_M_order 79 = .ok (.getfield 140, 3) := by decide +kernel
theorem d_M_order_82 : decode b_M_order 82 = .ok (.iload_n 1, 1) := by decide +kernel
theorem d_M_order_83 : decode b_M_order 83 = .ok (.iaload, 1) := by decide +kernel
theorem d_M_order_84 : decode b_M_order 84 = .ok (.iload_n 3, 1) := by decide +kernel
theorem d_M_order_85 : decode b_M_order 85 = .ok (.if_icmp .eq 5, 3) := by decide +kernel
theorem d_M_order_88 : decode b_M_order 88 = .ok (.iconst 0, 1) := by decide +kernel
theorem d_M_order_89 : decode b_M_order 89 = .ok (.ireturn, 1) := by decide +kernel
theorem d_M_order_90 : decode b_M_order 90 = .ok (.aload_n 0, 1) := by decide +kernel
theorem d_M_order_91 : decode b_M_order 91 = .ok (.getfield 26, 3) := by decide +kernel
theorem d_M_order_94 : decode b_M_order 94 = .ok (.getfield 146, 3) := by decide +kernel
theorem d_M_order_97 : decode b_M_order 97 = .ok (.iload_n 2, 1) := by decide +kernel
theorem d_M_order_98 : decode b_M_order 98 = .ok (.iload_n 1, 1) := by decide +kernel
theorem d_M_order_99 : decode b_M_order 99 = .ok (.iastore, 1) := by decide +kernel
theorem d_M_order_100 : decode b_M_order 100 = .ok (.aload_n 0, 1) := by decide +kernel
theorem d_M_order_101 : decode b_M_order 101 = .ok (.getfield 12, 3) := by decide +kernel
theorem d_M_order_104 : decode b_M_order 104 = .ok (.getfield 149, 3) := by decide +kernel
theorem d_M_order_107 : decode b_M_order 107 = .ok (.iload_n 1, 1) := by decide +kernel
theorem d_M_order_108 : decode b_M_order 108 = .ok (.dup2, 1) := by decide +kernel
theorem d_M_order_109 : decode b_M_order 109 = .ok (.iaload, 1) := by decide +kernel
theorem d_M_order_110 : decode b_M_order 110 = .ok (.iconst 1, 1) := by decide +kernel
theorem d_M_order_111 : decode b_M_order 111 = .ok (.iadd, 1) := by decide +kernel
theorem d_M_order_112 : decode b_M_order 112 = .ok (.iastore, 1) := by decide +kernel
theorem d_M_order_113 : decode b_M_order 113 = .ok (.iconst 1, 1) := by decide +kernel
theorem d_M_order_114 : decode b_M_order 114 = .ok (.ireturn, 1) := by decide +kernel
theorem d_M_split_0 : decode b_M_split 0 = .ok (.aload_n 0, 1) := by decide +kernel
theorem d_M_split_1 : decode b_M_split 1 = .ok (.getfield 12, 3) := by decide +kernel
theorem d_M_split_4 : decode b_M_split 4 = .ok (.iload_n 1, 1) := by decide +kernel
theorem d_M_split_5 : decode b_M_split 5 = .ok (.invokevirtual 71, 3) := by decide +kernel
theorem d_M_split_8 : decode b_M_split 8 = .ok (.ifCond .eq 8, 3) := by decide +kernel
theorem d_M_split_11 : decode b_M_split 11 = .ok (.iload_n 2, 1) := by decide +kernel
theorem d_M_split_12 : decode b_M_split 12 = .ok (.iconst 1, 1) := by decide +kernel
theorem d_M_split_13 : decode b_M_split 13 = .ok (.if_icmp .ge 13, 3) := by decide +kernel
theorem d_M_split_16 : decode b_M_split 16 = .ok (.new 44, 3) := by decide +kernel
theorem d_M_split_19 : decode b_M_split 19 = .ok (.dup, 1) := by decide +kernel
theorem d_M_split_20 : decode b_M_split 20 = .ok (.ldc 152, 2) := by decide +kernel
theorem d_M_split_22 : decode b_M_split 22 = .ok (.invokespecial 48, 3) := by decide +kernel
theorem d_M_split_25 : decode b_M_split 25 = .ok (.athrow, 1) := by decide +kernel
theorem d_M_split_26 : decode b_M_split 26 = .ok (.aload_n 0, 1) := by decide +kernel
theorem d_M_split_27 : decode b_M_split 27 = .ok (.getfield 12, 3) := by decide +kernel
theorem d_M_split_30 : decode b_M_split 30 = .ok (.invokevirtual 51, 3) := by decide +kernel
theorem d_M_split_33 : decode b_M_split 33 = .ok (.ifCond .ne 13, 3) := by decide +kernel
theorem d_M_split_36 : decode b_M_split 36 = .ok (.aload_n 0, 1) := by decide +kernel
theorem d_M_split_37 : decode b_M_split 37 = .ok (.getfield 19, 3) := by decide +kernel
theorem d_M_split_40 : decode b_M_split 40 = .ok (.invokevirtual 79, 3) := by decide +kernel
theorem d_M_split_43 : decode b_M_split 43 = .ok (.ifCond .eq 13, 3) := by decide +kernel
theorem d_M_split_46 : decode b_M_split 46 = .ok (.new 55, 3) := by decide +kernel
theorem d_M_split_49 : decode b_M_split 49 = .ok (.dup, 1) := by decide +kernel
theorem d_M_split_50 : decode b_M_split 50 = .ok (.ldc 154, 2) := by decide +kernel
theorem d_M_split_52 : decode b_M_split 52 = .ok (.invokespecial 59, 3) := by decide +kernel
theorem d_M_split_55 : decode b_M_split 55 = .ok (.athrow, 1) := by decide +kernel
theorem d_M_split_56 : decode b_M_split 56 = .ok (.iload_n 2, 1) := by decide +kernel
theorem d_M_split_57 : decode b_M_split 57 = .ok (.aload_n 0, 1) := by decide +kernel
theorem d_M_split_58 : decode b_M_split 58 = .ok (.getfield 19, 3) := by decide +kernel
theorem d_M_split_61 : decode b_M_split 61 = .ok (.getfield 156, 3) := by decide +kernel
theorem d_M_split_64 : decode b_M_split 64 = .ok (.iload_n 1, 1) := by decide +kernel
theorem d_M_split_65 : decode b_M_split 65 = .ok (.iaload, 1) := by decide +kernel
theorem d_M_split_66 : decode b_M_split 66 = .ok (.if_icmp .ge 25, 3) := by decide +kernel
theorem d_M_split_69 : decode b_M_split 69 = .ok (.aload_n 0, 1) := by decide +kernel
theorem d_M_split_70 : decode b_M_split 70 = .ok (.getfield 12, 3) := by decide +kernel
theorem d_M_split_73 : decode b_M_split 73 = .ok (.iload_n 1, 1) := by decide +kernel
theorem d_M_split_74 : decode b_M_split 74 = .ok (.invokevirtual 159, 3) := by decide +kernel
theorem d_M_split_77 : decode b_M_split 77 = .ok (.ifCond .gt 14, 3) := by decide +kernel
theorem d_M_split_80 : decode b_M_split 80 = .ok (.aload_n 0, 1) := by decide +kernel
theorem d_M_split_81 : decode b_M_split 81 = .ok (.getfield 12, 3) := by decide +kernel
theorem d_M_split_84 : decode b_M_split 84 = .ok (.iload_n 1, 1) := by decide +kernel
theorem d_M_split_85 : decode b_M_split 85 = .ok (.invokevirtual 143, 3) := by decide +kernel
theorem d_M_split_88 : decode b_M_split 88 = .ok (.ifCond .eq 5, 3) := by decide +kernel
theorem d_M_split_91 : decode b_M_split 91 = .ok (.iconst (-1), 1) := by decide +kernel
theorem d_M_split_92 : decode b_M_split 92 = .ok (.ireturn, 1) := by decide +kernel
theorem d_M_split_93 : decode b_M_split 93 = .ok (.aload_n 0, 1) := by decide +kernel
theorem d_M_split_94 : decode b_M_split 94 = .ok (.getfield 12, 3) := by decide +kernel
theorem d_M_split_97 : decode b_M_split 97 = .ok (.iload_n 1, 1) := by decide +kernel
theorem d_M_split_98 : decode b_M_split 98 = .ok (.invokevirtual 162, 3) := by decide +kernel
theorem d_M_split_101 : decode b_M_split 101 = .ok (.istore_n 3, 1) := by decide +kernel
theorem d_M_split_102 : decode b_M_split 102 = .ok (.iload_n 3, 1) := by decide +kernel
theorem d_M_split_103 : decode b_M_split 103 = .ok (.iconst (-1), 1) := by decide +kernel
theorem d_M_split_104 : decode b_M_split 104 = .ok (.if_icmp .ne 5, 3) := by decide +kernel
theorem d_M_split_107 : decode b_M_split 107 = .ok (.iconst (-1), 1) := by decide +kernel
theorem d_M_split_108 : decode b_M_split 108 = .ok (.ireturn, 1) := by decide +kernel
theorem d_M_split_109 : decode b_M_split 109 = .ok (.aload_n 0, 1) := by decide +kernel
theorem d_M_split_110 : decode b_M_split 110 = .ok (.getfield 19, 3) := by decide +kernel
theorem d_M_split_113 : decode b_M_split 113 = .ok (.iload_n 1, 1) := by decide +kernel
theorem d_M_split_114 : decode b_M_split 114 = .ok (.iload_n 2, 1) := by decide +kernel
theorem d_M_split_115 : decode b_M_split 115 = .ok (.invokevirtual 165, 3) := by decide +kernel
theorem d_M_split_118 : decode b_M_split 118 = .ok (.aload_n 0, 1) := by decide +kernel
theorem d_M_split_119 : decode b_M_split 119 = .ok (.getfield 12, 3) := by decide +kernel
theorem d_M_split_122 : decode b_M_split 122 = .ok (.aload_n 0, 1) := by decide +kernel
theorem d_M_split_123 : decode b_M_split 123 = .ok (.getfield 12, 3) := by decide +kernel
theorem d_M_split_126 : decode b_M_split 126 = .ok (.getfield 97, 3) := by decide +kernel
theorem d_M_split_129 : decode b_M_split 129 = .ok (.iload_n 1, 1) := by decide +kernel
theorem d_M_split_130 : decode b_M_split 130 = .ok (.iaload, 1) := by decide +kernel
theorem d_M_split_131 : decode b_M_split 131 = .ok (.iload_n 3, 1) := by decide +kernel
theorem d_M_split_132 : decode b_M_split 132 = .ok (.aload_n 0, 1) := by decide +kernel
theorem d_M_split_133 : decode b_M_split 133 = .ok (.getfield 12, 3) := by decide +kernel
theorem d_M_split_136 : decode b_M_split 136 = .ok (.getfield 168, 3) := by decide +kernel
theorem d_M_split_139 : decode b_M_split 139 = .ok (.iload_n 1, 1) := by decide +kernel
theorem d_M_split_140 : decode b_M_split 140 = .ok (.iaload, 1) := by decide +kernel
theorem d_M_split_141 : decode b_M_split 141 = .ok (.aload_n 0, 1) := by decide +kernel
theorem d_M_split_142 : decode b_M_split 142 = .ok (.getfield 12, 3) := by decide +kernel
theorem d_M_split_145 : decode b_M_split 145 = .ok (.getfield 140, 3) := by decide +kernel
theorem d_M_split_148 : decode b_M_split 148 = .ok (.iload_n 1, 1) := by decide +kernel
theorem d_M_split_149 : decode b_M_split 149 = .ok (.iaload, 1) := by decide +kernel
theorem d_M_split_150 : decode b_M_split 150 = .ok (.invokevirtual 67, 3) := by decide +kernel
theorem d_M_split_153 : decode b_M_split 153 = .ok (.istore 4, 2) := by decide +kernel
theorem d_M_split_155 : decode b_M_split 155 = .ok (.aload_n 0, 1) := by decide +kernel
theorem d_M_split_156 : decode b_M_split 156 = .ok (.getfield 19, 3) := by decide +kernel
theorem d_M_split_159 : decode b_M_split 159 = .ok (.iload 4, 2) := by decide +kernel
theorem d_M_split_161 : decode b_M_split 161 = .ok (.iload_n 2, 1) := by decide +kernel
theorem d_M_split_162 : decode b_M_split 162 = .ok (.iconst 0, 1) := by decide +kernel
theorem d_M_split_163 : decode b_M_split 163 = .ok (.invokevirtual 82, 3) := by decide +kernel
theorem d_M_split_166 : decode b_M_split 166 = .ok (.pop, 1) := by decide +kernel
theorem d_M_split_167 : decode b_M_split 167 = .ok (.iload 4, 2) := by decide +kernel
theorem d_M_split_169 : decode b_M_split 169 = .ok (.ireturn, 1) := by decide +kernel
theorem d_M_leg_0 : decode b_M_leg 0 = .ok (.aload_n 0, 1) := by decide +kernel
theorem d_M_leg_1 : decode b_M_leg 1 = .ok (.getfield 26, 3) := by decide +kernel
theorem d_M_leg_4 : decode b_M_leg 4 = .ok (.iload_n 1, 1) := by decide +kernel
theorem d_M_leg_5 : decode b_M_leg 5 = .ok (.invokevirtual 92, 3) := by decide +kernel
theorem d_M_leg_8 : decode b_M_leg 8 = .ok (.ifCond .eq 35, 3) := by decide +kernel
theorem d_M_leg_11 : decode b_M_leg 11 = .ok (.aload_n 0, 1) := by decide +kernel
theorem d_M_leg_12 : decode b_M_leg 12 = .ok (.getfield 26, 3) := by decide +kernel
theorem d_M_leg_15 : decode b_M_leg 15 = .ok (.iload_n 2, 1) := by decide +kernel
theorem d_M_leg_16 : decode b_M_leg 16 = .ok (.invokevirtual 92, 3) := by decide +kernel
theorem d_M_leg_19 : decode b_M_leg 19 = .ok (.ifCond .eq 24, 3) := by decide +kernel
theorem d_M_leg_22 : decode b_M_leg 22 = .ok (.aload_n 0, 1) := by decide +kernel
theorem d_M_leg_23 : decode b_M_leg 23 = .ok (.getfield 26, 3) := by decide +kernel
theorem d_M_leg_26 : decode b_M_leg 26 = .ok (.getfield 93, 3) := by decide +kernel
theorem d_M_leg_29 : decode b_M_leg 29 = .ok (.iload_n 1, 1) := by decide +kernel
theorem d_M_leg_30 : decode b_M_leg 30 = .ok (.iaload, 1) := by decide +kernel
theorem d_M_leg_31 : decode b_M_leg 31 = .ok (.aload_n 0, 1) := by decide +kernel
theorem d_M_leg_32 : decode b_M_leg 32 = .ok (.getfield 26, 3) := by decide +kernel
theorem d_M_leg_35 : decode b_M_leg 35 = .ok (.getfield 93, 3) := by decide +kernel
theorem d_M_leg_38 : decode b_M_leg 38 = .ok (.iload_n 2, 1) := by decide +kernel
theorem d_M_leg_39 : decode b_M_leg 39 = .ok (.iaload, 1) := by decide +kernel
theorem d_M_leg_40 : decode b_M_leg 40 = .ok (.if_icmp .ne 5, 3) := by decide +kernel
theorem d_M_leg_43 : decode b_M_leg 43 = .ok (.iconst 0, 1) := by decide +kernel
theorem d_M_leg_44 : decode b_M_leg 44 = .ok (.ireturn, 1) := by decide +kernel
theorem d_M_leg_45 : decode b_M_leg 45 = .ok (.aload_n 0, 1) := by decide +kernel
theorem d_M_leg_46 : decode b_M_leg 46 = .ok (.getfield 26, 3) := by decide +kernel
theorem d_M_leg_49 : decode b_M_leg 49 = .ok (.getfield 171, 3) := by decide +kernel
theorem d_M_leg_52 : decode b_M_leg 52 = .ok (.iload_n 1, 1) := by decide +kernel
theorem d_M_leg_53 : decode b_M_leg 53 = .ok (.iaload, 1) := by decide +kernel
theorem d_M_leg_54 : decode b_M_leg 54 = .ok (.iconst (-1), 1) := by decide +kernel
theorem d_M_leg_55 : decode b_M_leg 55 = .ok (.if_icmp .ne 28, 3) := by decide +kernel
theorem d_M_leg_58 : decode b_M_leg 58 = .ok (.aload_n 0, 1) := by decide +kernel
theorem d_M_leg_59 : decode b_M_leg 59 = .ok (.getfield 26, 3) := by decide +kernel
theorem d_M_leg_62 : decode b_M_leg 62 = .ok (.getfield 174, 3) := by decide +kernel
theorem d_M_leg_65 : decode b_M_leg 65 = .ok (.iload_n 2, 1) := by decide +kernel
theorem d_M_leg_66 : decode b_M_leg 66 = .ok (.iaload, 1) := by decide +kernel
theorem d_M_leg_67 : decode b_M_leg 67 = .ok (.iconst (-1), 1) := by decide +kernel
theorem d_M_leg_68 : decode b_M_leg 68 = .ok (.if_icmp .ne 15, 3) := by decide +kernel
theorem d_M_leg_71 : decode b_M_leg 71 = .ok (.aload_n 0, 1) := by decide +kernel
theorem d_M_leg_72 : decode b_M_leg 72 = .ok (.getfield 26, 3) := by decide +kernel
theorem d_M_leg_75 : decode b_M_leg 75 = .ok (.iload_n 1, 1) := by decide +kernel
theorem d_M_leg_76 : decode b_M_leg 76 = .ok (.invokevirtual 177, 3) := by decide +kernel
theorem d_M_leg_79 : decode b_M_leg 79 = .ok (.iload_n 2, 1) := by decide +kernel
theorem d_M_leg_80 : decode b_M_leg 80 = .ok (.if_icmp .ne 5, 3) := by decide +kernel
theorem d_M_leg_83 : decode b_M_leg 83 = .ok (.iconst 0, 1) := by decide +kernel
theorem d_M_leg_84 : decode b_M_leg 84 = .ok (.ireturn, 1) := by decide +kernel
theorem d_M_leg_85 : decode b_M_leg 85 = .ok (.aload_n 0, 1) := by decide +kernel
theorem d_M_leg_86 : decode b_M_leg 86 = .ok (.getfield 26, 3) := by decide +kernel
theorem d_M_leg_89 : decode b_M_leg 89 = .ok (.getfield 171, 3) := by decide +kernel
theorem d_M_leg_92 : decode b_M_leg 92 = .ok (.iload_n 1, 1) := by decide +kernel
theorem d_M_leg_93 : decode b_M_leg 93 = .ok (.iload_n 2, 1) := by decide +kernel
theorem d_M_leg_94 : decode b_M_leg 94 = .ok (.iastore, 1) := by decide +kernel
theorem d_M_leg_95 : decode b_M_leg 95 = .ok (.aload_n 0, 1) := by decide +kernel
theorem d_M_leg_96 : decode b_M_leg 96 = .ok (.getfield 26, 3) := by decide +kernel
theorem d_M_leg_99 : decode b_M_leg 99 = .ok (.getfield 174, 3) := by decide +kernel
theorem d_M_leg_102 : decode b_M_leg 102 = .ok (.iload_n 2, 1) := by decide +kernel
theorem d_M_leg_103 : decode b_M_leg 103 = .ok (.iload_n 1, 1) := by decide +kernel
theorem d_M_leg_104 : decode b_M_leg 104 = .ok (.iastore, 1) := by decide +kernel
theorem d_M_leg_105 : decode b_M_leg 105 = .ok (.iconst 1, 1) := by decide +kernel
theorem d_M_leg_106 : decode b_M_leg 106 = .ok (.ireturn, 1) := by decide +kernel
theorem d_M_look_0 : decode b_M_look 0 = .ok (.aload_n 0, 1) := by decide +kernel
theorem d_M_look_1 : decode b_M_look 1 = .ok (.getfield 12, 3) := by decide +kernel
theorem d_M_look_4 : decode b_M_look 4 = .ok (.iload_n 1, 1) := by decide +kernel
theorem d_M_look_5 : decode b_M_look 5 = .ok (.invokevirtual 71, 3) := by decide +kernel
theorem d_M_look_8 : decode b_M_look 8 = .ok (.ifCond .ne 13, 3) := by decide +kernel
theorem d_M_look_11 : decode b_M_look 11 = .ok (.new 180, 3) := by decide +kernel
theorem d_M_look_14 : decode b_M_look 14 = .ok (.dup, 1) := by decide +kernel
theorem d_M_look_15 : decode b_M_look 15 = .ok (.ldc 182, 2) := by decide +kernel
theorem d_M_look_17 : decode b_M_look 17 = .ok (.invokespecial 184, 3) := by decide +kernel
theorem d_M_look_20 : decode b_M_look 20 = .ok (.athrow, 1) := by decide +kernel
theorem d_M_look_21 : decode b_M_look 21 = .ok (.iload_n 2, 1) := by decide +kernel
theorem d_M_look_22 : decode b_M_look 22 = .ok (.tableswitch 257 0 15 #[78, 88, 98, 108, 118, 128, 138, 148, 154, 163, 186, 209, 219, 229, 238, 247], 78) := by decide +kernel
theorem d_M_look_100 : decode b_M_look 100 = .ok (.aload_n 0, 1) := by decide +kernel
theorem d_M_look_101 : decode b_M_look 101 = .ok (.getfield 12, 3) := by decide +kernel
theorem d_M_look_104 : decode b_M_look 104 = .ok (.getfield 97, 3) := by decide +kernel
theorem d_M_look_107 : decode b_M_look 107 = .ok (.iload_n 1, 1) := by decide +kernel
theorem d_M_look_108 : decode b_M_look 108 = .ok (.iaload, 1) := by decide +kernel
theorem d_M_look_109 : decode b_M_look 109 = .ok (.ireturn, 1) := by decide +kernel
theorem d_M_look_110 : decode b_M_look 110 = .ok (.aload_n 0, 1) := by decide +kernel
theorem d_M_look_111 : decode b_M_look 111 = .ok (.getfield 12, 3) := by decide +kernel
theorem d_M_look_114 : decode b_M_look 114 = .ok (.getfield 185, 3) := by decide +kernel
theorem d_M_look_117 : decode b_M_look 117 = .ok (.iload_n 1, 1) := by decide +kernel
theorem d_M_look_118 : decode b_M_look 118 = .ok (.iaload, 1) := by decide +kernel
theorem d_M_look_119 : decode b_M_look 119 = .ok (.ireturn, 1) := by decide +kernel
theorem d_M_look_120 : decode b_M_look 120 = .ok (.aload_n 0, 1) := by decide +kernel
theorem d_M_look_121 : decode b_M_look 121 = .ok (.getfield 12, 3) := by decide +kernel
theorem d_M_look_124 : decode b_M_look 124 = .ok (.getfield 168, 3) := by decide +kernel
theorem d_M_look_127 : decode b_M_look 127 = .ok (.iload_n 1, 1) := by decide +kernel
theorem d_M_look_128 : decode b_M_look 128 = .ok (.iaload, 1) := by decide +kernel
theorem d_M_look_129 : decode b_M_look 129 = .ok (.ireturn, 1) := by decide +kernel
theorem d_M_look_130 : decode b_M_look 130 = .ok (.aload_n 0, 1) := by decide +kernel
theorem d_M_look_131 : decode b_M_look 131 = .ok (.getfield 12, 3) := by decide +kernel
theorem d_M_look_134 : decode b_M_look 134 = .ok (.getfield 188, 3) := by decide +kernel
theorem d_M_look_137 : decode b_M_look 137 = .ok (.iload_n 1, 1) := by decide +kernel
theorem d_M_look_138 : decode b_M_look 138 = .ok (.iaload, 1) := by decide +kernel
theorem d_M_look_139 : decode b_M_look 139 = .ok (.ireturn, 1) := by decide +kernel
theorem d_M_look_140 : decode b_M_look 140 = .ok (.aload_n 0, 1) := by decide +kernel
theorem d_M_look_141 : decode b_M_look 141 = .ok (.getfield 19, 3) := by decide +kernel
theorem d_M_look_144 : decode b_M_look 144 = .ok (.getfield 191, 3) := by decide +kernel
theorem d_M_look_147 : decode b_M_look 147 = .ok (.iload_n 1, 1) := by decide +kernel
theorem d_M_look_148 : decode b_M_look 148 = .ok (.iaload, 1) := by decide +kernel
theorem d_M_look_149 : decode b_M_look 149 = .ok (.ireturn, 1) := by decide +kernel
theorem d_M_look_150 : decode b_M_look 150 = .ok (.aload_n 0, 1) := by decide +kernel
theorem d_M_look_151 : decode b_M_look 151 = .ok (.getfield 19, 3) := by decide +kernel
theorem d_M_look_154 : decode b_M_look 154 = .ok (.getfield 156, 3) := by decide +kernel
theorem d_M_look_157 : decode b_M_look 157 = .ok (.iload_n 1, 1) := by decide +kernel
theorem d_M_look_158 : decode b_M_look 158 = .ok (.iaload, 1) := by decide +kernel
theorem d_M_look_159 : decode b_M_look 159 = .ok (.ireturn, 1) := by decide +kernel
theorem d_M_look_160 : decode b_M_look 160 = .ok (.aload_n 0, 1) := by decide +kernel
theorem d_M_look_161 : decode b_M_look 161 = .ok (.getfield 19, 3) := by decide +kernel
theorem d_M_look_164 : decode b_M_look 164 = .ok (.getfield 194, 3) := by decide +kernel
theorem d_M_look_167 : decode b_M_look 167 = .ok (.iload_n 1, 1) := by decide +kernel
theorem d_M_look_168 : decode b_M_look 168 = .ok (.iaload, 1) := by decide +kernel
theorem d_M_look_169 : decode b_M_look 169 = .ok (.ireturn, 1) := by decide +kernel
theorem d_M_look_170 : decode b_M_look 170 = .ok (.aload_n 0, 1) := by decide +kernel
theorem d_M_look_171 : decode b_M_look 171 = .ok (.iload_n 1, 1) := by decide +kernel
theorem d_M_look_172 : decode b_M_look 172 = .ok (.invokevirtual 197, 3) := by decide +kernel
theorem d_M_look_175 : decode b_M_look 175 = .ok (.ireturn, 1) := by decide +kernel
theorem d_M_look_176 : decode b_M_look 176 = .ok (.aload_n 0, 1) := by decide +kernel
theorem d_M_look_177 : decode b_M_look 177 = .ok (.getfield 26, 3) := by decide +kernel
theorem d_M_look_180 : decode b_M_look 180 = .ok (.iload_n 1, 1) := by decide +kernel
theorem d_M_look_181 : decode b_M_look 181 = .ok (.invokevirtual 200, 3) := by decide +kernel
theorem d_M_look_184 : decode b_M_look 184 = .ok (.ireturn, 1) := by decide +kernel
theorem d_M_look_185 : decode b_M_look 185 = .ok (.aload_n 0, 1) := by decide +kernel
theorem d_M_look_186 : decode b_M_look 186 = .ok (.getfield 19, 3) := by decide +kernel
theorem d_M_look_189 : decode b_M_look 189 = .ok (.getfield 156, 3) := by decide +kernel
theorem d_M_look_192 : decode b_M_look 192 = .ok (.iload_n 1, 1) := by decide +kernel
theorem d_M_look_193 : decode b_M_look 193 = .ok (.iaload, 1) := by decide +kernel
theorem d_M_look_194 : decode b_M_look 194 = .ok (.aload_n 0, 1) := by decide +kernel
theorem d_M_look_195 : decode b_M_look 195 = .ok (.getfield 26, 3) := by decide +kernel
theorem d_M_look_198 : decode b_M_look 198 = .ok (.iload_n 1, 1) := by decide +kernel
theorem d_M_look_199 : decode b_M_look 199 = .ok (.invokevirtual 200, 3) := by decide +kernel
theorem d_M_look_202 : decode b_M_look 202 = .ok (.isub, 1) := by decide +kernel
theorem d_M_look_203 : decode b_M_look 203 = .ok (.iconst 0, 1) := by decide +kernel
theorem d_M_look_204 : decode b_M_look 204 = .ok (.invokestatic 203, 3) := by decide +kernel
theorem d_M_look_207 : decode b_M_look 207 = .ok (.ireturn, 1) := by decide +kernel
theorem d_M_look_208 : decode b_M_look 208 = .ok (.aload_n 0, 1) := by decide +kernel
theorem d_M_look_209 : decode b_M_look 209 = .ok (.getfield 26, 3) := by decide +kernel
theorem d_M_look_212 : decode b_M_look 212 = .ok (.iload_n 1, 1) := by decide +kernel
theorem d_M_look_213 : decode b_M_look 213 = .ok (.invokevirtual 200, 3) := by decide +kernel
theorem d_M_look_216 : decode b_M_look 216 = .ok (.aload_n 0, 1) := by decide +kernel
theorem d_M_look_217 : decode b_M_look 217 = .ok (.getfield 19, 3) := by decide +kernel
theorem d_M_look_220 : decode b_M_look 220 = .ok (.getfield 156, 3) := by decide +kernel
theorem d_M_look_223 : decode b_M_look 223 = .ok (.iload_n 1, 1) := by decide +kernel
theorem d_M_look_224 : decode b_M_look 224 = .ok (.iaload, 1) := by decide +kernel
theorem d_M_look_225 : decode b_M_look 225 = .ok (.isub, 1) := by decide +kernel
theorem d_M_look_226 : decode b_M_look 226 = .ok (.iconst 0, 1) := by decide +kernel
theorem d_M_look_227 : decode b_M_look 227 = .ok (.invokestatic 203, 3) := by decide +kernel
theorem d_M_look_230 : decode b_M_look 230 = .ok (.ireturn, 1) := by decide +kernel
theorem d_M_look_231 : decode b_M_look 231 = .ok (.aload_n 0, 1) := by decide +kernel
theorem d_M_look_232 : decode b_M_look 232 = .ok (.getfield 12, 3) := by decide +kernel
theorem d_M_look_235 : decode b_M_look 235 = .ok (.getfield 140, 3) := by decide +kernel
theorem d_M_look_238 : decode b_M_look 238 = .ok (.iload_n 1, 1) := by decide +kernel
theorem d_M_look_239 : decode b_M_look 239 = .ok (.iaload, 1) := by decide +kernel
theorem d_M_look_240 : decode b_M_look 240 = .ok (.ireturn, 1) := by decide +kernel
theorem d_M_look_241 : decode b_M_look 241 = .ok (.aload_n 0, 1) := by decide +kernel
theorem d_M_look_242 : decode b_M_look 242 = .ok (.getfield 12, 3) := by decide +kernel
theorem d_M_look_245 : decode b_M_look 245 = .ok (.getfield 149, 3) := by decide +kernel
theorem d_M_look_248 : decode b_M_look 248 = .ok (.iload_n 1, 1) := by decide +kernel
theorem d_M_look_249 : decode b_M_look 249 = .ok (.iaload, 1) := by decide +kernel
theorem d_M_look_250 : decode b_M_look 250 = .ok (.ireturn, 1) := by decide +kernel
theorem d_M_look_251 : decode b_M_look 251 = .ok (.aload_n 0, 1) := by decide +kernel
theorem d_M_look_252 : decode b_M_look 252 = .ok (.getfield 12, 3) := by decide +kernel
theorem d_M_look_255 : decode b_M_look 255 = .ok (.iload_n 1, 1) := by decide +kernel
theorem d_M_look_256 : decode b_M_look 256 = .ok (.invokevirtual 159, 3) := by decide +kernel
theorem d_M_look_259 : decode b_M_look 259 = .ok (.ireturn, 1) := by decide +kernel
theorem d_M_look_260 : decode b_M_look 260 = .ok (.aload_n 0, 1) := by decide +kernel
theorem d_M_look_261 : decode b_M_look 261 = .ok (.getfield 26, 3) := by decide +kernel
theorem d_M_look_264 : decode b_M_look 264 = .ok (.iload_n 1, 1) := by decide +kernel
theorem d_M_look_265 : decode b_M_look 265 = .ok (.invokevirtual 206, 3) := by decide +kernel
theorem d_M_look_268 : decode b_M_look 268 = .ok (.ireturn, 1) := by decide +kernel
theorem d_M_look_269 : decode b_M_look 269 = .ok (.aload_n 0, 1) := by decide +kernel
theorem d_M_look_270 : decode b_M_look 270 = .ok (.getfield 12, 3) := by decide +kernel
end
section
theorem d_M_look_273 : decode b_M_look 273 = .ok (.getfield 209, 3) := by decide +kernel
theorem d_M_look_276 : decode b_M_look 276 = .ok (.iload_n 1, 1) := by decide +kernel
theorem d_M_look_277 : decode b_M_look 277 = .ok (.iaload, 1) := by decide +kernel
theorem d_M_look_278 : decode b_M_look 278 = .ok (.ireturn, 1) := by decide +kernel
theorem d_M_look_279 : decode b_M_look 279 = .ok (.new 180, 3) := by decide +kernel
theorem d_M_look_282 : decode b_M_look 282 = .ok (.dup, 1) := by decide +kernel
theorem d_M_look_283 : decode b_M_look 283 = .ok (.ldc 212, 2) := by decide +kernel
theorem d_M_look_285 : decode b_M_look 285 = .ok (.invokespecial 184, 3) := by decide +kernel
theorem d_M_look_288 : decode b_M_look 288 = .ok (.athrow, 1) := by decide +kernel
theorem d_M_seen_0 : decode b_M_seen 0 = .ok (.aload_n 0, 1) := by decide +kernel
theorem d_M_seen_1 : decode b_M_seen 1 = .ok (.getfield 26, 3) := by decide +kernel
theorem d_M_seen_4 : decode b_M_seen 4 = .ok (.iload_n 1, 1) := by decide +kernel
theorem d_M_seen_5 : decode b_M_seen 5 = .ok (.invokevirtual 92, 3) := by decide +kernel
theorem d_M_seen_8 : decode b_M_seen 8 = .ok (.ifCond .eq 13, 3) := by decide +kernel
theorem d_M_seen_11 : decode b_M_seen 11 = .ok (.iload_n 2, 1) := by decide +kernel
theorem d_M_seen_12 : decode b_M_seen 12 = .ok (.ifCond .lt 9, 3) := by decide +kernel
theorem d_M_seen_15 : decode b_M_seen 15 = .ok (.iload_n 2, 1) := by decide +kernel
theorem d_M_seen_16 : decode b_M_seen 16 = .ok (.bipush 13, 2) := by decide +kernel
theorem d_M_seen_18 : decode b_M_seen 18 = .ok (.if_icmp .le 13, 3) := by decide +kernel
theorem d_M_seen_21 : decode b_M_seen 21 = .ok (.new 180, 3) := by decide +kernel
theorem d_M_seen_24 : decode b_M_seen 24 = .ok (.dup, 1) := by decide +kernel
theorem d_M_seen_25 : decode b_M_seen 25 = .ok (.ldc 214, 2) := by decide +kernel
theorem d_M_seen_27 : decode b_M_seen 27 = .ok (.invokespecial 184, 3) := by decide +kernel
theorem d_M_seen_30 : decode b_M_seen 30 = .ok (.athrow, 1) := by decide +kernel
theorem d_M_seen_31 : decode b_M_seen 31 = .ok (.iload_n 2, 1) := by decide +kernel
theorem d_M_seen_32 : decode b_M_seen 32 = .ok (.tableswitch 160 0 9 #[56, 66, 76, 86, 96, 105, 122, 132, 142, 151], 56) := by decide +kernel
theorem d_M_seen_88 : decode b_M_seen 88 = .ok (.aload_n 0, 1) := by decide +kernel
theorem d_M_seen_89 : decode b_M_seen 89 = .ok (.getfield 26, 3) := by decide +kernel
theorem d_M_seen_92 : decode b_M_seen 92 = .ok (.getfield 93, 3) := by decide +kernel
theorem d_M_seen_95 : decode b_M_seen 95 = .ok (.iload_n 1, 1) := by decide +kernel
theorem d_M_seen_96 : decode b_M_seen 96 = .ok (.iaload, 1) := by decide +kernel
theorem d_M_seen_97 : decode b_M_seen 97 = .ok (.ireturn, 1) := by decide +kernel
theorem d_M_seen_98 : decode b_M_seen 98 = .ok (.aload_n 0, 1) := by decide +kernel
theorem d_M_seen_99 : decode b_M_seen 99 = .ok (.getfield 26, 3) := by decide +kernel
theorem d_M_seen_102 : decode b_M_seen 102 = .ok (.getfield 216, 3) := by decide +kernel
theorem d_M_seen_105 : decode b_M_seen 105 = .ok (.iload_n 1, 1) := by decide +kernel
theorem d_M_seen_106 : decode b_M_seen 106 = .ok (.iaload, 1) := by decide +kernel
theorem d_M_seen_107 : decode b_M_seen 107 = .ok (.ireturn, 1) := by decide +kernel
theorem d_M_seen_108 : decode b_M_seen 108 = .ok (.aload_n 0, 1) := by decide +kernel
theorem d_M_seen_109 : decode b_M_seen 109 = .ok (.getfield 26, 3) := by decide +kernel
theorem d_M_seen_112 : decode b_M_seen 112 = .ok (.getfield 217, 3) := by decide +kernel
theorem d_M_seen_115 : decode b_M_seen 115 = .ok (.iload_n 1, 1) := by decide +kernel
theorem d_M_seen_116 : decode b_M_seen 116 = .ok (.iaload, 1) := by decide +kernel
theorem d_M_seen_117 : decode b_M_seen 117 = .ok (.ireturn, 1) := by decide +kernel
theorem d_M_seen_118 : decode b_M_seen 118 = .ok (.aload_n 0, 1) := by decide +kernel
theorem d_M_seen_119 : decode b_M_seen 119 = .ok (.getfield 26, 3) := by decide +kernel
theorem d_M_seen_122 : decode b_M_seen 122 = .ok (.getfield 115, 3) := by decide +kernel
theorem d_M_seen_125 : decode b_M_seen 125 = .ok (.iload_n 1, 1) := by decide +kernel
theorem d_M_seen_126 : decode b_M_seen 126 = .ok (.iaload, 1) := by decide +kernel
theorem d_M_seen_127 : decode b_M_seen 127 = .ok (.ireturn, 1) := by decide +kernel
theorem d_M_seen_128 : decode b_M_seen 128 = .ok (.aload_n 0, 1) := by decide +kernel
theorem d_M_seen_129 : decode b_M_seen 129 = .ok (.getfield 26, 3) := by decide +kernel
theorem d_M_seen_132 : decode b_M_seen 132 = .ok (.iload_n 1, 1) := by decide +kernel
theorem d_M_seen_133 : decode b_M_seen 133 = .ok (.invokevirtual 101, 3) := by decide +kernel
theorem d_M_seen_136 : decode b_M_seen 136 = .ok (.ireturn, 1) := by decide +kernel
theorem d_M_seen_137 : decode b_M_seen 137 = .ok (.aload_n 0, 1) := by decide +kernel
theorem d_M_seen_138 : decode b_M_seen 138 = .ok (.getfield 26, 3) := by decide +kernel
theorem d_M_seen_141 : decode b_M_seen 141 = .ok (.iload_n 1, 1) := by decide +kernel
theorem d_M_seen_142 : decode b_M_seen 142 = .ok (.invokevirtual 220, 3) := by decide +kernel
theorem d_M_seen_145 : decode b_M_seen 145 = .ok (.ifCond .eq 7, 3) := by decide +kernel
theorem d_M_seen_148 : decode b_M_seen 148 = .ok (.iconst 1, 1) := by decide +kernel
theorem d_M_seen_149 : decode b_M_seen 149 = .ok (.goto 4, 3) := by decide +kernel
theorem d_M_seen_152 : decode b_M_seen 152 = .ok (.iconst 0, 1) := by decide +kernel
theorem d_M_seen_153 : decode b_M_seen 153 = .ok (.ireturn, 1) := by decide +kernel
theorem d_M_seen_154 : decode b_M_seen 154 = .ok (.aload_n 0, 1) := by decide +kernel
theorem d_M_seen_155 : decode b_M_seen 155 = .ok (.getfield 26, 3) := by decide +kernel
theorem d_M_seen_158 : decode b_M_seen 158 = .ok (.getfield 146, 3) := by decide +kernel
theorem d_M_seen_161 : decode b_M_seen 161 = .ok (.iload_n 1, 1) := by decide +kernel
theorem d_M_seen_162 : decode b_M_seen 162 = .ok (.iaload, 1) := by decide +kernel
theorem d_M_seen_163 : decode b_M_seen 163 = .ok (.ireturn, 1) := by decide +kernel
theorem d_M_seen_164 : decode b_M_seen 164 = .ok (.aload_n 0, 1) := by decide +kernel
theorem d_M_seen_165 : decode b_M_seen 165 = .ok (.getfield 26, 3) := by decide +kernel
theorem d_M_seen_168 : decode b_M_seen 168 = .ok (.getfield 171, 3) := by decide +kernel
theorem d_M_seen_171 : decode b_M_seen 171 = .ok (.iload_n 1, 1) := by decide +kernel
theorem d_M_seen_172 : decode b_M_seen 172 = .ok (.iaload, 1) := by decide +kernel
theorem d_M_seen_173 : decode b_M_seen 173 = .ok (.ireturn, 1) := by decide +kernel
theorem d_M_seen_174 : decode b_M_seen 174 = .ok (.aload_n 0, 1) := by decide +kernel
theorem d_M_seen_175 : decode b_M_seen 175 = .ok (.getfield 26, 3) := by decide +kernel
theorem d_M_seen_178 : decode b_M_seen 178 = .ok (.iload_n 1, 1) := by decide +kernel
theorem d_M_seen_179 : decode b_M_seen 179 = .ok (.invokevirtual 177, 3) := by decide +kernel
theorem d_M_seen_182 : decode b_M_seen 182 = .ok (.ireturn, 1) := by decide +kernel
theorem d_M_seen_183 : decode b_M_seen 183 = .ok (.aload_n 0, 1) := by decide +kernel
theorem d_M_seen_184 : decode b_M_seen 184 = .ok (.getfield 26, 3) := by decide +kernel
theorem d_M_seen_187 : decode b_M_seen 187 = .ok (.iload_n 1, 1) := by decide +kernel
theorem d_M_seen_188 : decode b_M_seen 188 = .ok (.invokevirtual 223, 3) := by decide +kernel
theorem d_M_seen_191 : decode b_M_seen 191 = .ok (.ireturn, 1) := by decide +kernel
theorem d_M_seen_192 : decode b_M_seen 192 = .ok (.aload_n 0, 1) := by decide +kernel
theorem d_M_seen_193 : decode b_M_seen 193 = .ok (.getfield 26, 3) := by decide +kernel
theorem d_M_seen_196 : decode b_M_seen 196 = .ok (.iload_n 1, 1) := by decide +kernel
theorem d_M_seen_197 : decode b_M_seen 197 = .ok (.iload_n 2, 1) := by decide +kernel
theorem d_M_seen_198 : decode b_M_seen 198 = .ok (.bipush 10, 2) := by decide +kernel
theorem d_M_seen_200 : decode b_M_seen 200 = .ok (.isub, 1) := by decide +kernel
theorem d_M_seen_201 : decode b_M_seen 201 = .ok (.invokevirtual 226, 3) := by decide +kernel
theorem d_M_seen_204 : decode b_M_seen 204 = .ok (.istore_n 3, 1) := by decide +kernel
theorem d_M_seen_205 : decode b_M_seen 205 = .ok (.iload_n 3, 1) := by decide +kernel
theorem d_M_seen_206 : decode b_M_seen 206 = .ok (.iconst (-1), 1) := by decide +kernel
theorem d_M_seen_207 : decode b_M_seen 207 = .ok (.if_icmp .ne 13, 3) := by decide +kernel
theorem d_M_seen_210 : decode b_M_seen 210 = .ok (.new 229, 3) := by decide +kernel
theorem d_M_seen_213 : decode b_M_seen 213 = .ok (.dup, 1) := by decide +kernel
theorem d_M_seen_214 : decode b_M_seen 214 = .ok (.ldc 231, 2) := by decide +kernel
theorem d_M_seen_216 : decode b_M_seen 216 = .ok (.invokespecial 233, 3) := by decide +kernel
theorem d_M_seen_219 : decode b_M_seen 219 = .ok (.athrow, 1) := by decide +kernel
theorem d_M_seen_220 : decode b_M_seen 220 = .ok (.iload_n 3, 1) := by decide +kernel
theorem d_M_seen_221 : decode b_M_seen 221 = .ok (.ireturn, 1) := by decide +kernel
theorem d_M_waits_0 : decode b_M_waits 0 = .ok (.iconst 0, 1) := by decide +kernel
theorem d_M_waits_1 : decode b_M_waits 1 = .ok (.istore_n 2, 1) := by decide +kernel
theorem d_M_waits_2 : decode b_M_waits 2 = .ok (.iconst 0, 1) := by decide +kernel
theorem d_M_waits_3 : decode b_M_waits 3 = .ok (.istore_n 3, 1) := by decide +kernel
theorem d_M_waits_4 : decode b_M_waits 4 = .ok (.iload_n 3, 1) := by decide +kernel
theorem d_M_waits_5 : decode b_M_waits 5 = .ok (.aload_n 0, 1) := by decide +kernel
theorem d_M_waits_6 : decode b_M_waits 6 = .ok (.getfield 26, 3) := by decide +kernel
theorem d_M_waits_9 : decode b_M_waits 9 = .ok (.getfield 234, 3) := by decide +kernel
theorem d_M_waits_12 : decode b_M_waits 12 = .ok (.if_icmp .ge 30, 3) := by decide +kernel
theorem d_M_waits_15 : decode b_M_waits 15 = .ok (.aload_n 0, 1) := by decide +kernel
theorem d_M_waits_16 : decode b_M_waits 16 = .ok (.getfield 26, 3) := by decide +kernel
theorem d_M_waits_19 : decode b_M_waits 19 = .ok (.iload_n 3, 1) := by decide +kernel
theorem d_M_waits_20 : decode b_M_waits 20 = .ok (.invokevirtual 220, 3) := by decide +kernel
theorem d_M_waits_23 : decode b_M_waits 23 = .ok (.ifCond .eq 13, 3) := by decide +kernel
theorem d_M_waits_26 : decode b_M_waits 26 = .ok (.iload_n 2, 1) := by decide +kernel
theorem d_M_waits_27 : decode b_M_waits 27 = .ok (.iload_n 1, 1) := by decide +kernel
theorem d_M_waits_28 : decode b_M_waits 28 = .ok (.if_icmp .ne 5, 3) := by decide +kernel
theorem d_M_waits_31 : decode b_M_waits 31 = .ok (.iload_n 3, 1) := by decide +kernel
theorem d_M_waits_32 : decode b_M_waits 32 = .ok (.ireturn, 1) := by decide +kernel
theorem d_M_waits_33 : decode b_M_waits 33 = .ok (.iinc 2 1, 3) := by decide +kernel
theorem d_M_waits_36 : decode b_M_waits 36 = .ok (.iinc 3 1, 3) := by decide +kernel
theorem d_M_waits_39 : decode b_M_waits 39 = .ok (.goto (-35), 3) := by decide +kernel
theorem d_M_waits_42 : decode b_M_waits 42 = .ok (.iconst (-1), 1) := by decide +kernel
theorem d_M_waits_43 : decode b_M_waits 43 = .ok (.ireturn, 1) := by decide +kernel
theorem d_M_like_0 : decode b_M_like 0 = .ok (.iload_n 1, 1) := by decide +kernel
theorem d_M_like_1 : decode b_M_like 1 = .ok (.invokestatic 37, 3) := by decide +kernel
theorem d_M_like_4 : decode b_M_like 4 = .ok (.ifCond .eq 10, 3) := by decide +kernel
theorem d_M_like_7 : decode b_M_like 7 = .ok (.iload_n 2, 1) := by decide +kernel
theorem d_M_like_8 : decode b_M_like 8 = .ok (.invokestatic 41, 3) := by decide +kernel
theorem d_M_like_11 : decode b_M_like 11 = .ok (.ifCond .ne 13, 3) := by decide +kernel
theorem d_M_like_14 : decode b_M_like 14 = .ok (.new 44, 3) := by decide +kernel
theorem d_M_like_17 : decode b_M_like 17 = .ok (.dup, 1) := by decide +kernel
theorem d_M_like_18 : decode b_M_like 18 = .ok (.ldc 46, 2) := by decide +kernel
theorem d_M_like_20 : decode b_M_like 20 = .ok (.invokespecial 48, 3) := by decide +kernel
theorem d_M_like_23 : decode b_M_like 23 = .ok (.athrow, 1) := by decide +kernel
theorem d_M_like_24 : decode b_M_like 24 = .ok (.iconst 0, 1) := by decide +kernel
theorem d_M_like_25 : decode b_M_like 25 = .ok (.istore 4, 2) := by decide +kernel
theorem d_M_like_27 : decode b_M_like 27 = .ok (.iconst 0, 1) := by decide +kernel
theorem d_M_like_28 : decode b_M_like 28 = .ok (.istore 5, 2) := by decide +kernel
theorem d_M_like_30 : decode b_M_like 30 = .ok (.iload 5, 2) := by decide +kernel
theorem d_M_like_32 : decode b_M_like 32 = .ok (.aload_n 0, 1) := by decide +kernel
theorem d_M_like_33 : decode b_M_like 33 = .ok (.getfield 12, 3) := by decide +kernel
theorem d_M_like_36 : decode b_M_like 36 = .ok (.getfield 237, 3) := by decide +kernel
theorem d_M_like_39 : decode b_M_like 39 = .ok (.if_icmp .ge 52, 3) := by decide +kernel
theorem d_M_like_42 : decode b_M_like 42 = .ok (.aload_n 0, 1) := by decide +kernel
theorem d_M_like_43 : decode b_M_like 43 = .ok (.getfield 12, 3) := by decide +kernel
theorem d_M_like_46 : decode b_M_like 46 = .ok (.getfield 97, 3) := by decide +kernel
theorem d_M_like_49 : decode b_M_like 49 = .ok (.iload 5, 2) := by decide +kernel
theorem d_M_like_51 : decode b_M_like 51 = .ok (.iaload, 1) := by decide +kernel
theorem d_M_like_52 : decode b_M_like 52 = .ok (.iload_n 1, 1) := by decide +kernel
theorem d_M_like_53 : decode b_M_like 53 = .ok (.if_icmp .ne 32, 3) := by decide +kernel
theorem d_M_like_56 : decode b_M_like 56 = .ok (.aload_n 0, 1) := by decide +kernel
theorem d_M_like_57 : decode b_M_like 57 = .ok (.getfield 12, 3) := by decide +kernel
theorem d_M_like_60 : decode b_M_like 60 = .ok (.getfield 185, 3) := by decide +kernel
theorem d_M_like_63 : decode b_M_like 63 = .ok (.iload 5, 2) := by decide +kernel
theorem d_M_like_65 : decode b_M_like 65 = .ok (.iaload, 1) := by decide +kernel
theorem d_M_like_66 : decode b_M_like 66 = .ok (.iload_n 2, 1) := by decide +kernel
theorem d_M_like_67 : decode b_M_like 67 = .ok (.invokestatic 238, 3) := by decide +kernel
theorem d_M_like_70 : decode b_M_like 70 = .ok (.ifCond .eq 15, 3) := by decide +kernel
theorem d_M_like_73 : decode b_M_like 73 = .ok (.iload 4, 2) := by decide +kernel
theorem d_M_like_75 : decode b_M_like 75 = .ok (.iload_n 3, 1) := by decide +kernel
theorem d_M_like_76 : decode b_M_like 76 = .ok (.if_icmp .ne 6, 3) := by decide +kernel
theorem d_M_like_79 : decode b_M_like 79 = .ok (.iload 5, 2) := by decide +kernel
theorem d_M_like_81 : decode b_M_like 81 = .ok (.ireturn, 1) := by decide +kernel
theorem d_M_like_82 : decode b_M_like 82 = .ok (.iinc 4 1, 3) := by decide +kernel
theorem d_M_like_85 : decode b_M_like 85 = .ok (.iinc 5 1, 3) := by decide +kernel
theorem d_M_like_88 : decode b_M_like 88 = .ok (.goto (-58), 3) := by decide +kernel
theorem d_M_like_91 : decode b_M_like 91 = .ok (.iconst (-1), 1) := by decide +kernel
theorem d_M_like_92 : decode b_M_like 92 = .ok (.ireturn, 1) := by decide +kernel
theorem d_M_count_0 : decode b_M_count 0 = .ok (.iload_n 1, 1) := by decide +kernel
theorem d_M_count_1 : decode b_M_count 1 = .ok (.tableswitch 114 0 8 #[51, 59, 67, 75, 80, 88, 96, 104, 109], 51) := by decide +kernel
theorem d_M_count_52 : decode b_M_count 52 = .ok (.aload_n 0, 1) := by decide +kernel
theorem d_M_count_53 : decode b_M_count 53 = .ok (.getfield 12, 3) := by decide +kernel
theorem d_M_count_56 : decode b_M_count 56 = .ok (.getfield 237, 3) := by decide +kernel
theorem d_M_count_59 : decode b_M_count 59 = .ok (.ireturn, 1) := by decide +kernel
theorem d_M_count_60 : decode b_M_count 60 = .ok (.aload_n 0, 1) := by decide +kernel
theorem d_M_count_61 : decode b_M_count 61 = .ok (.getfield 26, 3) := by decide +kernel
theorem d_M_count_64 : decode b_M_count 64 = .ok (.getfield 234, 3) := by decide +kernel
theorem d_M_count_67 : decode b_M_count 67 = .ok (.ireturn, 1) := by decide +kernel
theorem d_M_count_68 : decode b_M_count 68 = .ok (.aload_n 0, 1) := by decide +kernel
theorem d_M_count_69 : decode b_M_count 69 = .ok (.getfield 19, 3) := by decide +kernel
theorem d_M_count_72 : decode b_M_count 72 = .ok (.getfield 241, 3) := by decide +kernel
theorem d_M_count_75 : decode b_M_count 75 = .ok (.ireturn, 1) := by decide +kernel
theorem d_M_count_76 : decode b_M_count 76 = .ok (.aload_n 0, 1) := by decide +kernel
theorem d_M_count_77 : decode b_M_count 77 = .ok (.getfield 34, 3) := by decide +kernel
theorem d_M_count_80 : decode b_M_count 80 = .ok (.ireturn, 1) := by decide +kernel
theorem d_M_count_81 : decode b_M_count 81 = .ok (.aload_n 0, 1) := by decide +kernel
theorem d_M_count_82 : decode b_M_count 82 = .ok (.getfield 26, 3) := by decide +kernel
theorem d_M_count_85 : decode b_M_count 85 = .ok (.invokevirtual 242, 3) := by decide +kernel
theorem d_M_count_88 : decode b_M_count 88 = .ok (.ireturn, 1) := by decide +kernel
theorem d_M_count_89 : decode b_M_count 89 = .ok (.aload_n 0, 1) := by decide +kernel
theorem d_M_count_90 : decode b_M_count 90 = .ok (.getfield 26, 3) := by decide +kernel
theorem d_M_count_93 : decode b_M_count 93 = .ok (.invokevirtual 246, 3) := by decide +kernel
theorem d_M_count_96 : decode b_M_count 96 = .ok (.ireturn, 1) := by decide +kernel
theorem d_M_count_97 : decode b_M_count 97 = .ok (.aload_n 0, 1) := by decide +kernel
theorem d_M_count_98 : decode b_M_count 98 = .ok (.getfield 26, 3) := by decide +kernel
theorem d_M_count_101 : decode b_M_count 101 = .ok (.invokevirtual 249, 3) := by decide +kernel
theorem d_M_count_104 : decode b_M_count 104 = .ok (.ireturn, 1) := by decide +kernel
theorem d_M_count_105 : decode b_M_count 105 = .ok (.aload_n 0, 1) := by decide +kernel
theorem d_M_count_106 : decode b_M_count 106 = .ok (.getfield 30, 3) := by decide +kernel
theorem d_M_count_109 : decode b_M_count 109 = .ok (.ireturn, 1) := by decide +kernel
theorem d_M_count_110 : decode b_M_count 110 = .ok (.aload_n 0, 1) := by decide +kernel
theorem d_M_count_111 : decode b_M_count 111 = .ok (.invokevirtual 252, 3) := by decide +kernel
theorem d_M_count_114 : decode b_M_count 114 = .ok (.ireturn, 1) := by decide +kernel
theorem d_M_count_115 : decode b_M_count 115 = .ok (.iconst (-1), 1) := by decide +kernel
theorem d_M_count_116 : decode b_M_count 116 = .ok (.ireturn, 1) := by decide +kernel
theorem d_M_hasArrived_0 : decode b_M_hasArrived 0 = .ok (.aload_n 0, 1) := by decide +kernel
theorem d_M_hasArrived_1 : decode b_M_hasArrived 1 = .ok (.getfield 30, 3) := by decide +kernel
theorem d_M_hasArrived_4 : decode b_M_hasArrived 4 = .ok (.iconst 1, 1) := by decide +kernel
theorem d_M_hasArrived_5 : decode b_M_hasArrived 5 = .ok (.iload_n 1, 1) := by decide +kernel
theorem d_M_hasArrived_6 : decode b_M_hasArrived 6 = .ok (.ishl, 1) := by decide +kernel
theorem d_M_hasArrived_7 : decode b_M_hasArrived 7 = .ok (.iand, 1) := by decide +kernel
theorem d_M_hasArrived_8 : decode b_M_hasArrived 8 = .ok (.ifCond .eq 7, 3) := by decide +kernel
theorem d_M_hasArrived_11 : decode b_M_hasArrived 11 = .ok (.iconst 1, 1) := by decide +kernel
theorem d_M_hasArrived_12 : decode b_M_hasArrived 12 = .ok (.goto 4, 3) := by decide +kernel
theorem d_M_hasArrived_15 : decode b_M_hasArrived 15 = .ok (.iconst 0, 1) := by decide +kernel
theorem d_M_hasArrived_16 : decode b_M_hasArrived 16 = .ok (.ireturn, 1) := by decide +kernel
theorem d_M_difference_0 : decode b_M_difference 0 = .ok (.iconst 0, 1) := by decide +kernel
theorem d_M_difference_1 : decode b_M_difference 1 = .ok (.istore_n 2, 1) := by decide +kernel
theorem d_M_difference_2 : decode b_M_difference 2 = .ok (.iconst 0, 1) := by decide +kernel
theorem d_M_difference_3 : decode b_M_difference 3 = .ok (.istore_n 3, 1) := by decide +kernel
theorem d_M_difference_4 : decode b_M_difference 4 = .ok (.iconst 0, 1) := by decide +kernel
theorem d_M_difference_5 : decode b_M_difference 5 = .ok (.istore 4, 2) := by decide +kernel
theorem d_M_difference_7 : decode b_M_difference 7 = .ok (.iload 4, 2) := by decide +kernel
theorem d_M_difference_9 : decode b_M_difference 9 = .ok (.aload_n 0, 1) := by decide +kernel
theorem d_M_difference_10 : decode b_M_difference 10 = .ok (.getfield 12, 3) := by decide +kernel
theorem d_M_difference_13 : decode b_M_difference 13 = .ok (.getfield 237, 3) := by decide +kernel
theorem d_M_difference_16 : decode b_M_difference 16 = .ok (.if_icmp .ge 39, 3) := by decide +kernel
theorem d_M_difference_19 : decode b_M_difference 19 = .ok (.aload_n 0, 1) := by decide +kernel
theorem d_M_difference_20 : decode b_M_difference 20 = .ok (.getfield 12, 3) := by decide +kernel
theorem d_M_difference_23 : decode b_M_difference 23 = .ok (.getfield 168, 3) := by decide +kernel
theorem d_M_difference_26 : decode b_M_difference 26 = .ok (.iload 4, 2) := by decide +kernel
theorem d_M_difference_28 : decode b_M_difference 28 = .ok (.iaload, 1) := by decide +kernel
theorem d_M_difference_29 : decode b_M_difference 29 = .ok (.iload_n 1, 1) := by decide +kernel
theorem d_M_difference_30 : decode b_M_difference 30 = .ok (.if_icmp .ne 19, 3) := by decide +kernel
theorem d_M_difference_33 : decode b_M_difference 33 = .ok (.iinc 2 1, 3) := by decide +kernel
theorem d_M_difference_36 : decode b_M_difference 36 = .ok (.iload_n 3, 1) := by decide +kernel
theorem d_M_difference_37 : decode b_M_difference 37 = .ok (.aload_n 0, 1) := by decide +kernel
theorem d_M_difference_38 : decode b_M_difference 38 = .ok (.getfield 19, 3) := by decide +kernel
theorem d_M_difference_41 : decode b_M_difference 41 = .ok (.getfield 156, 3) := by decide +kernel
theorem d_M_difference_44 : decode b_M_difference 44 = .ok (.iload 4, 2) := by decide +kernel
theorem d_M_difference_46 : decode b_M_difference 46 = .ok (.iaload, 1) := by decide +kernel
theorem d_M_difference_47 : decode b_M_difference 47 = .ok (.iadd, 1) := by decide +kernel
theorem d_M_difference_48 : decode b_M_difference 48 = .ok (.istore_n 3, 1) := by decide +kernel
theorem d_M_difference_49 : decode b_M_difference 49 = .ok (.iinc 4 1, 3) := by decide +kernel
theorem d_M_difference_52 : decode b_M_difference 52 = .ok (.goto (-45), 3) := by decide +kernel
theorem d_M_difference_55 : decode b_M_difference 55 = .ok (.iload_n 2, 1) := by decide +kernel
theorem d_M_difference_56 : decode b_M_difference 56 = .ok (.ifCond .ne 7, 3) := by decide +kernel
theorem d_M_difference_59 : decode b_M_difference 59 = .ok (.iconst 0, 1) := by decide +kernel
theorem d_M_difference_60 : decode b_M_difference 60 = .ok (.goto 14, 3) := by decide +kernel
theorem d_M_difference_63 : decode b_M_difference 63 = .ok (.aload_n 0, 1) := by decide +kernel
theorem d_M_difference_64 : decode b_M_difference 64 = .ok (.getfield 19, 3) := by decide +kernel
theorem d_M_difference_67 : decode b_M_difference 67 = .ok (.getfield 156, 3) := by decide +kernel
theorem d_M_difference_70 : decode b_M_difference 70 = .ok (.iload_n 1, 1) := by decide +kernel
theorem d_M_difference_71 : decode b_M_difference 71 = .ok (.iaload, 1) := by decide +kernel
theorem d_M_difference_72 : decode b_M_difference 72 = .ok (.iload_n 3, 1) := by decide +kernel
theorem d_M_difference_73 : decode b_M_difference 73 = .ok (.isub, 1) := by decide +kernel
theorem d_M_difference_74 : decode b_M_difference 74 = .ok (.ireturn, 1) := by decide +kernel
theorem d_M_mastersThatDiffer_0 : decode b_M_mastersThatDiffer 0 = .ok (.iconst 0, 1) := by decide +kernel
theorem d_M_mastersThatDiffer_1 : decode b_M_mastersThatDiffer 1 = .ok (.istore_n 1, 1) := by decide +kernel
theorem d_M_mastersThatDiffer_2 : decode b_M_mastersThatDiffer 2 = .ok (.iconst 0, 1) := by decide +kernel
theorem d_M_mastersThatDiffer_3 : decode b_M_mastersThatDiffer 3 = .ok (.istore_n 2, 1) := by decide +kernel
theorem d_M_mastersThatDiffer_4 : decode b_M_mastersThatDiffer 4 = .ok (.iload_n 2, 1) := by decide +kernel
theorem d_M_mastersThatDiffer_5 : decode b_M_mastersThatDiffer 5 = .ok (.aload_n 0, 1) := by decide +kernel
theorem d_M_mastersThatDiffer_6 : decode b_M_mastersThatDiffer 6 = .ok (.getfield 12, 3) := by decide +kernel
theorem d_M_mastersThatDiffer_9 : decode b_M_mastersThatDiffer 9 = .ok (.getfield 237, 3) := by decide +kernel
theorem d_M_mastersThatDiffer_12 : decode b_M_mastersThatDiffer 12 = .ok (.if_icmp .ge 33, 3) := by decide +kernel
theorem d_M_mastersThatDiffer_15 : decode b_M_mastersThatDiffer 15 = .ok (.aload_n 0, 1) := by decide +kernel
theorem d_M_mastersThatDiffer_16 : decode b_M_mastersThatDiffer 16 = .ok (.getfield 12, 3) := by decide +kernel
theorem d_M_mastersThatDiffer_19 : decode b_M_mastersThatDiffer 19 = .ok (.getfield 209, 3) := by decide +kernel
theorem d_M_mastersThatDiffer_22 : decode b_M_mastersThatDiffer 22 = .ok (.iload_n 2, 1) := by decide +kernel
theorem d_M_mastersThatDiffer_23 : decode b_M_mastersThatDiffer 23 = .ok (.iaload, 1) := by decide +kernel
theorem d_M_mastersThatDiffer_24 : decode b_M_mastersThatDiffer 24 = .ok (.iload_n 2, 1) := by decide +kernel
theorem d_M_mastersThatDiffer_25 : decode b_M_mastersThatDiffer 25 = .ok (.if_icmp .ne 14, 3) := by decide +kernel
theorem d_M_mastersThatDiffer_28 : decode b_M_mastersThatDiffer 28 = .ok (.aload_n 0, 1) := by decide +kernel
theorem d_M_mastersThatDiffer_29 : decode b_M_mastersThatDiffer 29 = .ok (.iload_n 2, 1) := by decide +kernel
theorem d_M_mastersThatDiffer_30 : decode b_M_mastersThatDiffer 30 = .ok (.invokevirtual 255, 3) := by decide +kernel
theorem d_M_mastersThatDiffer_33 : decode b_M_mastersThatDiffer 33 = .ok (.ifCond .eq 6, 3) := by decide +kernel
theorem d_M_mastersThatDiffer_36 : decode b_M_mastersThatDiffer 36 = .ok (.iinc 1 1, 3) := by decide +kernel
theorem d_M_mastersThatDiffer_39 : decode b_M_mastersThatDiffer 39 = .ok (.iinc 2 1, 3) := by decide +kernel
theorem d_M_mastersThatDiffer_42 : decode b_M_mastersThatDiffer 42 = .ok (.goto (-38), 3) := by decide +kernel
theorem d_M_mastersThatDiffer_45 : decode b_M_mastersThatDiffer 45 = .ok (.iload_n 1, 1) := by decide +kernel
theorem d_M_mastersThatDiffer_46 : decode b_M_mastersThatDiffer 46 = .ok (.ireturn, 1) := by decide +kernel
theorem d_M_someOneDiffers_0 : decode b_M_someOneDiffers 0 = .ok (.iconst 0, 1) := by decide +kernel
theorem d_M_someOneDiffers_1 : decode b_M_someOneDiffers 1 = .ok (.istore_n 2, 1) := by decide +kernel
theorem d_M_someOneDiffers_2 : decode b_M_someOneDiffers 2 = .ok (.iload_n 2, 1) := by decide +kernel
theorem d_M_someOneDiffers_3 : decode b_M_someOneDiffers 3 = .ok (.aload_n 0, 1) := by decide +kernel
theorem d_M_someOneDiffers_4 : decode b_M_someOneDiffers 4 = .ok (.getfield 12, 3) := by decide +kernel
theorem d_M_someOneDiffers_7 : decode b_M_someOneDiffers 7 = .ok (.getfield 237, 3) := by decide +kernel
theorem d_M_someOneDiffers_10 : decode b_M_someOneDiffers 10 = .ok (.if_icmp .ge 32, 3) := by decide +kernel
theorem d_M_someOneDiffers_13 : decode b_M_someOneDiffers 13 = .ok (.aload_n 0, 1) := by decide +kernel
theorem d_M_someOneDiffers_14 : decode b_M_someOneDiffers 14 = .ok (.getfield 12, 3) := by decide +kernel
theorem d_M_someOneDiffers_17 : decode b_M_someOneDiffers 17 = .ok (.getfield 209, 3) := by decide +kernel
theorem d_M_someOneDiffers_20 : decode b_M_someOneDiffers 20 = .ok (.iload_n 2, 1) := by decide +kernel
theorem d_M_someOneDiffers_21 : decode b_M_someOneDiffers 21 = .ok (.iaload, 1) := by decide +kernel
theorem d_M_someOneDiffers_22 : decode b_M_someOneDiffers 22 = .ok (.iload_n 1, 1) := by decide +kernel
theorem d_M_someOneDiffers_23 : decode b_M_someOneDiffers 23 = .ok (.if_icmp .ne 13, 3) := by decide +kernel
theorem d_M_someOneDiffers_26 : decode b_M_someOneDiffers 26 = .ok (.aload_n 0, 1) := by decide +kernel
theorem d_M_someOneDiffers_27 : decode b_M_someOneDiffers 27 = .ok (.iload_n 2, 1) := by decide +kernel
theorem d_M_someOneDiffers_28 : decode b_M_someOneDiffers 28 = .ok (.invokevirtual 197, 3) := by decide +kernel
theorem d_M_someOneDiffers_31 : decode b_M_someOneDiffers 31 = .ok (.ifCond .eq 5, 3) := by decide +kernel
theorem d_M_someOneDiffers_34 : decode b_M_someOneDiffers 34 = .ok (.iconst 1, 1) := by decide +kernel
theorem d_M_someOneDiffers_35 : decode b_M_someOneDiffers 35 = .ok (.ireturn, 1) := by decide +kernel
theorem d_M_someOneDiffers_36 : decode b_M_someOneDiffers 36 = .ok (.iinc 2 1, 3) := by decide +kernel
theorem d_M_someOneDiffers_39 : decode b_M_someOneDiffers 39 = .ok (.goto (-37), 3) := by decide +kernel
theorem d_M_someOneDiffers_42 : decode b_M_someOneDiffers 42 = .ok (.iconst 0, 1) := by decide +kernel
theorem d_M_someOneDiffers_43 : decode b_M_someOneDiffers 43 = .ok (.ireturn, 1) := by decide +kernel
theorem d_M_isCall_0 : decode b_M_isCall 0 = .ok (.iload_n 0, 1) := by decide +kernel
theorem d_M_isCall_1 : decode b_M_isCall 1 = .ok (.ifCond .lt 12, 3) := by decide +kernel
theorem d_M_isCall_4 : decode b_M_isCall 4 = .ok (.iload_n 0, 1) := by decide +kernel
theorem d_M_isCall_5 : decode b_M_isCall 5 = .ok (.iconst 4, 1) := by decide +kernel
theorem d_M_isCall_6 : decode b_M_isCall 6 = .ok (.if_icmp .ge 7, 3) := by decide +kernel
theorem d_M_isCall_9 : decode b_M_isCall 9 = .ok (.iconst 1, 1) := by decide +kernel
theorem d_M_isCall_10 : decode b_M_isCall 10 = .ok (.goto 4, 3) := by decide +kernel
theorem d_M_isCall_13 : decode b_M_isCall 13 = .ok (.iconst 0, 1) := by decide +kernel
theorem d_M_isCall_14 : decode b_M_isCall 14 = .ok (.ireturn, 1) := by decide +kernel
theorem d_M_isNumber_0 : decode b_M_isNumber 0 = .ok (.iload_n 0, 1) := by decide +kernel
theorem d_M_isNumber_1 : decode b_M_isNumber 1 = .ok (.ifCond .lt 14, 3) := by decide +kernel
theorem d_M_isNumber_4 : decode b_M_isNumber 4 = .ok (.iload_n 0, 1) := by decide +kernel
theorem d_M_isNumber_5 : decode b_M_isNumber 5 = .ok (.ldc_w 258, 3) := by decide +kernel
theorem d_M_isNumber_8 : decode b_M_isNumber 8 = .ok (.if_icmp .gt 7, 3) := by decide +kernel
theorem d_M_isNumber_11 : decode b_M_isNumber 11 = .ok (.iconst 1, 1) := by decide +kernel
theorem d_M_isNumber_12 : decode b_M_isNumber 12 = .ok (.goto 4, 3) := by decide +kernel
theorem d_M_isNumber_15 : decode b_M_isNumber 15 = .ok (.iconst 0, 1) := by decide +kernel
theorem d_M_isNumber_16 : decode b_M_isNumber 16 = .ok (.ireturn, 1) := by decide +kernel
theorem d_M_isWeight_0 : decode b_M_isWeight 0 = .ok (.iload_n 0, 1) := by decide +kernel
theorem d_M_isWeight_1 : decode b_M_isWeight 1 = .ok (.ifCond .lt 14, 3) := by decide +kernel
theorem d_M_isWeight_4 : decode b_M_isWeight 4 = .ok (.iload_n 0, 1) := by decide +kernel
theorem d_M_isWeight_5 : decode b_M_isWeight 5 = .ok (.ldc_w 259, 3) := by decide +kernel
theorem d_M_isWeight_8 : decode b_M_isWeight 8 = .ok (.if_icmp .gt 7, 3) := by decide +kernel
theorem d_M_isWeight_11 : decode b_M_isWeight 11 = .ok (.iconst 1, 1) := by decide +kernel
theorem d_M_isWeight_12 : decode b_M_isWeight 12 = .ok (.goto 4, 3) := by decide +kernel
theorem d_M_isWeight_15 : decode b_M_isWeight 15 = .ok (.iconst 0, 1) := by decide +kernel
theorem d_M_isWeight_16 : decode b_M_isWeight 16 = .ok (.ireturn, 1) := by decide +kernel
theorem d_M_isHolder_0 : decode b_M_isHolder 0 = .ok (.iload_n 0, 1) := by decide +kernel
theorem d_M_isHolder_1 : decode b_M_isHolder 1 = .ok (.ifCond .lt 13, 3) := by decide +kernel
theorem d_M_isHolder_4 : decode b_M_isHolder 4 = .ok (.iload_n 0, 1) := by decide +kernel
theorem d_M_isHolder_5 : decode b_M_isHolder 5 = .ok (.bipush 10, 2) := by decide +kernel
theorem d_M_isHolder_7 : decode b_M_isHolder 7 = .ok (.if_icmp .ge 7, 3) := by decide +kernel
theorem d_M_isHolder_10 : decode b_M_isHolder 10 = .ok (.iconst 1, 1) := by decide +kernel
theorem d_M_isHolder_11 : decode b_M_isHolder 11 = .ok (.goto 4, 3) := by decide +kernel
theorem d_M_isHolder_14 : decode b_M_isHolder 14 = .ok (.iconst 0, 1) := by decide +kernel
theorem d_M_isHolder_15 : decode b_M_isHolder 15 = .ok (.ireturn, 1) := by decide +kernel
theorem d_M_areAlike_0 : decode b_M_areAlike 0 = .ok (.iload_n 0, 1) := by decide +kernel
theorem d_M_areAlike_1 : decode b_M_areAlike 1 = .ok (.istore_n 2, 1) := by decide +kernel
theorem d_M_areAlike_2 : decode b_M_areAlike 2 = .ok (.iload_n 1, 1) := by decide +kernel
theorem d_M_areAlike_3 : decode b_M_areAlike 3 = .ok (.istore_n 3, 1) := by decide +kernel
theorem d_M_areAlike_4 : decode b_M_areAlike 4 = .ok (.iconst 0, 1) := by decide +kernel
theorem d_M_areAlike_5 : decode b_M_areAlike 5 = .ok (.istore 4, 2) := by decide +kernel
theorem d_M_areAlike_7 : decode b_M_areAlike 7 = .ok (.iload 4, 2) := by decide +kernel
theorem d_M_areAlike_9 : decode b_M_areAlike 9 = .ok (.bipush 8, 2) := by decide +kernel
theorem d_M_areAlike_11 : decode b_M_areAlike 11 = .ok (.if_icmp .ge 30, 3) := by decide +kernel
theorem d_M_areAlike_14 : decode b_M_areAlike 14 = .ok (.iload_n 2, 1) := by decide +kernel
theorem d_M_areAlike_15 : decode b_M_areAlike 15 = .ok (.bipush 10, 2) := by decide +kernel
theorem d_M_areAlike_17 : decode b_M_areAlike 17 = .ok (.irem, 1) := by decide +kernel
theorem d_M_areAlike_18 : decode b_M_areAlike 18 = .ok (.iload_n 3, 1) := by decide +kernel
theorem d_M_areAlike_19 : decode b_M_areAlike 19 = .ok (.bipush 10, 2) := by decide +kernel
theorem d_M_areAlike_21 : decode b_M_areAlike 21 = .ok (.irem, 1) := by decide +kernel
theorem d_M_areAlike_22 : decode b_M_areAlike 22 = .ok (.if_icmp .ne 19, 3) := by decide +kernel
theorem d_M_areAlike_25 : decode b_M_areAlike 25 = .ok (.iload_n 2, 1) := by decide +kernel
theorem d_M_areAlike_26 : decode b_M_areAlike 26 = .ok (.bipush 10, 2) := by decide +kernel
theorem d_M_areAlike_28 : decode b_M_areAlike 28 = .ok (.idiv, 1) := by decide +kernel
theorem d_M_areAlike_29 : decode b_M_areAlike 29 = .ok (.istore_n 2, 1) := by decide +kernel
theorem d_M_areAlike_30 : decode b_M_areAlike 30 = .ok (.iload_n 3, 1) := by decide +kernel
theorem d_M_areAlike_31 : decode b_M_areAlike 31 = .ok (.bipush 10, 2) := by decide +kernel
theorem d_M_areAlike_33 : decode b_M_areAlike 33 = .ok (.idiv, 1) := by decide +kernel
theorem d_M_areAlike_34 : decode b_M_areAlike 34 = .ok (.istore_n 3, 1) := by decide +kernel
theorem d_M_areAlike_35 : decode b_M_areAlike 35 = .ok (.iinc 4 1, 3) := by decide +kernel
theorem d_M_areAlike_38 : decode b_M_areAlike 38 = .ok (.goto (-31), 3) := by decide +kernel
theorem d_M_areAlike_41 : decode b_M_areAlike 41 = .ok (.iload_n 2, 1) := by decide +kernel
theorem d_M_areAlike_42 : decode b_M_areAlike 42 = .ok (.bipush 10, 2) := by decide +kernel
theorem d_M_areAlike_44 : decode b_M_areAlike 44 = .ok (.idiv, 1) := by decide +kernel
theorem d_M_areAlike_45 : decode b_M_areAlike 45 = .ok (.iload_n 3, 1) := by decide +kernel
theorem d_M_areAlike_46 : decode b_M_areAlike 46 = .ok (.bipush 10, 2) := by decide +kernel
theorem d_M_areAlike_48 : decode b_M_areAlike 48 = .ok (.idiv, 1) := by decide +kernel
theorem d_M_areAlike_49 : decode b_M_areAlike 49 = .ok (.if_icmp .ne 5, 3) := by decide +kernel
theorem d_M_areAlike_52 : decode b_M_areAlike 52 = .ok (.iconst 1, 1) := by decide +kernel
theorem d_M_areAlike_53 : decode b_M_areAlike 53 = .ok (.ireturn, 1) := by decide +kernel
theorem d_M_areAlike_54 : decode b_M_areAlike 54 = .ok (.iload_n 2, 1) := by decide +kernel
theorem d_M_areAlike_55 : decode b_M_areAlike 55 = .ok (.bipush 10, 2) := by decide +kernel
theorem d_M_areAlike_57 : decode b_M_areAlike 57 = .ok (.irem, 1) := by decide +kernel
theorem d_M_areAlike_58 : decode b_M_areAlike 58 = .ok (.iload_n 3, 1) := by decide +kernel
theorem d_M_areAlike_59 : decode b_M_areAlike 59 = .ok (.bipush 10, 2) := by decide +kernel
theorem d_M_areAlike_61 : decode b_M_areAlike 61 = .ok (.idiv, 1) := by decide +kernel
theorem d_M_areAlike_62 : decode b_M_areAlike 62 = .ok (.bipush 10, 2) := by decide +kernel
theorem d_M_areAlike_64 : decode b_M_areAlike 64 = .ok (.irem, 1) := by decide +kernel
theorem d_M_areAlike_65 : decode b_M_areAlike 65 = .ok (.if_icmp .ne 32, 3) := by decide +kernel
theorem d_M_areAlike_68 : decode b_M_areAlike 68 = .ok (.iload_n 2, 1) := by decide +kernel
theorem d_M_areAlike_69 : decode b_M_areAlike 69 = .ok (.bipush 10, 2) := by decide +kernel
theorem d_M_areAlike_71 : decode b_M_areAlike 71 = .ok (.idiv, 1) := by decide +kernel
theorem d_M_areAlike_72 : decode b_M_areAlike 72 = .ok (.bipush 10, 2) := by decide +kernel
theorem d_M_areAlike_74 : decode b_M_areAlike 74 = .ok (.irem, 1) := by decide +kernel
theorem d_M_areAlike_75 : decode b_M_areAlike 75 = .ok (.iload_n 3, 1) := by decide +kernel
theorem d_M_areAlike_76 : decode b_M_areAlike 76 = .ok (.bipush 10, 2) := by decide +kernel
theorem d_M_areAlike_78 : decode b_M_areAlike 78 = .ok (.irem, 1) := by decide +kernel
theorem d_M_areAlike_79 : decode b_M_areAlike 79 = .ok (.if_icmp .ne 18, 3) := by decide +kernel
theorem d_M_areAlike_82 : decode b_M_areAlike 82 = .ok (.iload_n 2, 1) := by decide +kernel
theorem d_M_areAlike_83 : decode b_M_areAlike 83 = .ok (.bipush 100, 2) := by decide +kernel
theorem d_M_areAlike_85 : decode b_M_areAlike 85 = .ok (.idiv, 1) := by decide +kernel
theorem d_M_areAlike_86 : decode b_M_areAlike 86 = .ok (.iload_n 3, 1) := by decide +kernel
theorem d_M_areAlike_87 : decode b_M_areAlike 87 = .ok (.bipush 100, 2) := by decide +kernel
theorem d_M_areAlike_89 : decode b_M_areAlike 89 = .ok (.idiv, 1) := by decide +kernel
theorem d_M_areAlike_90 : decode b_M_areAlike 90 = .ok (.if_icmp .ne 7, 3) := by decide +kernel
theorem d_M_areAlike_93 : decode b_M_areAlike 93 = .ok (.iconst 1, 1) := by decide +kernel
theorem d_M_areAlike_94 : decode b_M_areAlike 94 = .ok (.goto 4, 3) := by decide +kernel
theorem d_M_areAlike_97 : decode b_M_areAlike 97 = .ok (.iconst 0, 1) := by decide +kernel
theorem d_M_areAlike_98 : decode b_M_areAlike 98 = .ok (.ireturn, 1) := by decide +kernel
theorem d_B_init_0 : decode b_B_init 0 = .ok (.aload_n 0, 1) := by decide +kernel
theorem d_B_init_1 : decode b_B_init 1 = .ok (.invokespecial 3, 3) := by decide +kernel
theorem d_B_init_4 : decode b_B_init 4 = .ok (.aload_n 0, 1) := by decide +kernel
theorem d_B_init_5 : decode b_B_init 5 = .ok (.iconst 0, 1) := by decide +kernel
theorem d_B_init_6 : decode b_B_init 6 = .ok (.putfield 9, 3) := by decide +kernel
theorem d_B_init_9 : decode b_B_init 9 = .ok (.aload_n 0, 1) := by decide +kernel
theorem d_B_init_10 : decode b_B_init 10 = .ok (.bipush 60, 2) := by decide +kernel
theorem d_B_init_12 : decode b_B_init 12 = .ok (.newarray .int, 2) := by decide +kernel
theorem d_B_init_14 : decode b_B_init 14 = .ok (.putfield 15, 3) := by decide +kernel
theorem d_B_init_17 : decode b_B_init 17 = .ok (.aload_n 0, 1) := by decide +kernel
theorem d_B_init_18 : decode b_B_init 18 = .ok (.bipush 60, 2) := by decide +kernel
theorem d_B_init_20 : decode b_B_init 20 = .ok (.newarray .int, 2) := by decide +kernel
theorem d_B_init_22 : decode b_B_init 22 = .ok (.putfield 19, 3) := by decide +kernel
theorem d_B_init_25 : decode b_B_init 25 = .ok (.aload_n 0, 1) := by decide +kernel
theorem d_B_init_26 : decode b_B_init 26 = .ok (.bipush 60, 2) := by decide +kernel
theorem d_B_init_28 : decode b_B_init 28 = .ok (.newarray .int, 2) := by decide +kernel
theorem d_B_init_30 : decode b_B_init 30 = .ok (.putfield 22, 3) := by decide +kernel
theorem d_B_init_33 : decode b_B_init 33 = .ok (.aload_n 0, 1) := by decide +kernel
theorem d_B_init_34 : decode b_B_init 34 = .ok (.bipush 60, 2) := by decide +kernel
theorem d_B_init_36 : decode b_B_init 36 = .ok (.newarray .int, 2) := by decide +kernel
theorem d_B_init_38 : decode b_B_init 38 = .ok (.putfield 25, 3) := by decide +kernel
theorem d_B_init_41 : decode b_B_init 41 = .ok (.aload_n 0, 1) := by decide +kernel
theorem d_B_init_42 : decode b_B_init 42 = .ok (.bipush 60, 2) := by decide +kernel
theorem d_B_init_44 : decode b_B_init 44 = .ok (.newarray .int, 2) := by decide +kernel
theorem d_B_init_46 : decode b_B_init 46 = .ok (.putfield 28, 3) := by decide +kernel
theorem d_B_init_49 : decode b_B_init 49 = .ok (.aload_n 0, 1) := by decide +kernel
theorem d_B_init_50 : decode b_B_init 50 = .ok (.bipush 60, 2) := by decide +kernel
theorem d_B_init_52 : decode b_B_init 52 = .ok (.newarray .int, 2) := by decide +kernel
theorem d_B_init_54 : decode b_B_init 54 = .ok (.putfield 31, 3) := by decide +kernel
theorem d_B_init_57 : decode b_B_init 57 = .ok (.aload_n 0, 1) := by decide +kernel
theorem d_B_init_58 : decode b_B_init 58 = .ok (.bipush 60, 2) := by decide +kernel
theorem d_B_init_60 : decode b_B_init 60 = .ok (.newarray .int, 2) := by decide +kernel
theorem d_B_init_62 : decode b_B_init 62 = .ok (.putfield 34, 3) := by decide +kernel
theorem d_B_init_65 : decode b_B_init 65 = .ok (.return_, 1) := by decide +kernel
theorem d_B_has_0 : decode b_B_has 0 = .ok (.iload_n 1, 1) := by decide +kernel
theorem d_B_has_1 : decode b_B_has 1 = .ok (.ifCond .lt 15, 3) := by decide +kernel
theorem d_B_has_4 : decode b_B_has 4 = .ok (.iload_n 1, 1) := by decide +kernel
theorem d_B_has_5 : decode b_B_has 5 = .ok (.aload_n 0, 1) := by decide +kernel
theorem d_B_has_6 : decode b_B_has 6 = .ok (.getfield 9, 3) := by decide +kernel
theorem d_B_has_9 : decode b_B_has 9 = .ok (.if_icmp .ge 7, 3) := by decide +kernel
theorem d_B_has_12 : decode b_B_has 12 = .ok (.iconst 1, 1) := by decide +kernel
theorem d_B_has_13 : decode b_B_has 13 = .ok (.goto 4, 3) := by decide +kernel
theorem d_B_has_16 : decode b_B_has 16 = .ok (.iconst 0, 1) := by decide +kernel
theorem d_B_has_17 : decode b_B_has 17 = .ok (.ireturn, 1) := by decide +kernel
theorem d_B_isFull_0 : decode b_B_isFull 0 = .ok (.aload_n 0, 1) := by decide +kernel
theorem d_B_isFull_1 : decode b_B_isFull 1 = .ok (.getfield 9, 3) := by decide +kernel
theorem d_B_isFull_4 : decode b_B_isFull 4 = .ok (.bipush 60, 2) := by decide +kernel
theorem d_B_isFull_6 : decode b_B_isFull 6 = .ok (.if_icmp .lt 7, 3) := by decide +kernel
theorem d_B_isFull_9 : decode b_B_isFull 9 = .ok (.iconst 1, 1) := by decide +kernel
theorem d_B_isFull_10 : decode b_B_isFull 10 = .ok (.goto 4, 3) := by decide +kernel
theorem d_B_isFull_13 : decode b_B_isFull 13 = .ok (.iconst 0, 1) := by decide +kernel
theorem d_B_isFull_14 : decode b_B_isFull 14 = .ok (.ireturn, 1) := by decide +kernel
theorem d_B_isOrdered_0 : decode b_B_isOrdered 0 = .ok (.aload_n 0, 1) := by decide +kernel
theorem d_B_isOrdered_1 : decode b_B_isOrdered 1 = .ok (.getfield 34, 3) := by decide +kernel
theorem d_B_isOrdered_4 : decode b_B_isOrdered 4 = .ok (.iload_n 1, 1) := by decide +kernel
theorem d_B_isOrdered_5 : decode b_B_isOrdered 5 = .ok (.iaload, 1) := by decide +kernel
theorem d_B_isOrdered_6 : decode b_B_isOrdered 6 = .ok (.ifCond .le 7, 3) := by decide +kernel
theorem d_B_isOrdered_9 : decode b_B_isOrdered 9 = .ok (.iconst 1, 1) := by decide +kernel
theorem d_B_isOrdered_10 : decode b_B_isOrdered 10 = .ok (.goto 4, 3) := by decide +kernel
theorem d_B_isOrdered_13 : decode b_B_isOrdered 13 = .ok (.iconst 0, 1) := by decide +kernel
theorem d_B_isOrdered_14 : decode b_B_isOrdered 14 = .ok (.ireturn, 1) := by decide +kernel
theorem d_B_isTaken_0 : decode b_B_isTaken 0 = .ok (.iconst 0, 1) := by decide +kernel
theorem d_B_isTaken_1 : decode b_B_isTaken 1 = .ok (.istore_n 3, 1) := by decide +kernel
theorem d_B_isTaken_2 : decode b_B_isTaken 2 = .ok (.iload_n 3, 1) := by decide +kernel
theorem d_B_isTaken_3 : decode b_B_isTaken 3 = .ok (.aload_n 0, 1) := by decide +kernel
theorem d_B_isTaken_4 : decode b_B_isTaken 4 = .ok (.getfield 9, 3) := by decide +kernel
theorem d_B_isTaken_7 : decode b_B_isTaken 7 = .ok (.if_icmp .ge 31, 3) := by decide +kernel
theorem d_B_isTaken_10 : decode b_B_isTaken 10 = .ok (.aload_n 0, 1) := by decide +kernel
theorem d_B_isTaken_11 : decode b_B_isTaken 11 = .ok (.getfield 15, 3) := by decide +kernel
theorem d_B_isTaken_14 : decode b_B_isTaken 14 = .ok (.iload_n 3, 1) := by decide +kernel
theorem d_B_isTaken_15 : decode b_B_isTaken 15 = .ok (.iaload, 1) := by decide +kernel
theorem d_B_isTaken_16 : decode b_B_isTaken 16 = .ok (.iload_n 1, 1) := by decide +kernel
theorem d_B_isTaken_17 : decode b_B_isTaken 17 = .ok (.if_icmp .ne 15, 3) := by decide +kernel
theorem d_B_isTaken_20 : decode b_B_isTaken 20 = .ok (.aload_n 0, 1) := by decide +kernel
theorem d_B_isTaken_21 : decode b_B_isTaken 21 = .ok (.getfield 19, 3) := by decide +kernel
theorem d_B_isTaken_24 : decode b_B_isTaken 24 = .ok (.iload_n 3, 1) := by decide +kernel
theorem d_B_isTaken_25 : decode b_B_isTaken 25 = .ok (.iaload, 1) := by decide +kernel
theorem d_B_isTaken_26 : decode b_B_isTaken 26 = .ok (.iload_n 2, 1) := by decide +kernel
theorem d_B_isTaken_27 : decode b_B_isTaken 27 = .ok (.if_icmp .ne 5, 3) := by decide +kernel
theorem d_B_isTaken_30 : decode b_B_isTaken 30 = .ok (.iconst 1, 1) := by decide +kernel
theorem d_B_isTaken_31 : decode b_B_isTaken 31 = .ok (.ireturn, 1) := by decide +kernel
theorem d_B_isTaken_32 : decode b_B_isTaken 32 = .ok (.iinc 3 1, 3) := by decide +kernel
theorem d_B_isTaken_35 : decode b_B_isTaken 35 = .ok (.goto (-33), 3) := by decide +kernel
theorem d_B_isTaken_38 : decode b_B_isTaken 38 = .ok (.iconst 0, 1) := by decide +kernel
theorem d_B_isTaken_39 : decode b_B_isTaken 39 = .ok (.ireturn, 1) := by decide +kernel
theorem d_B_mayStandUnder_0 : decode b_B_mayStandUnder 0 = .ok (.iload_n 2, 1) := by decide +kernel
theorem d_B_mayStandUnder_1 : decode b_B_mayStandUnder 1 = .ok (.iconst (-1), 1) := by decide +kernel
theorem d_B_mayStandUnder_2 : decode b_B_mayStandUnder 2 = .ok (.if_icmp .ne 5, 3) := by decide +kernel
theorem d_B_mayStandUnder_5 : decode b_B_mayStandUnder 5 = .ok (.iconst 1, 1) := by decide +kernel
theorem d_B_mayStandUnder_6 : decode b_B_mayStandUnder 6 = .ok (.ireturn, 1) := by decide +kernel
theorem d_B_mayStandUnder_7 : decode b_B_mayStandUnder 7 = .ok (.aload_n 0, 1) := by decide +kernel
theorem d_B_mayStandUnder_8 : decode b_B_mayStandUnder 8 = .ok (.iload_n 2, 1) := by decide +kernel
theorem d_B_mayStandUnder_9 : decode b_B_mayStandUnder 9 = .ok (.invokevirtual 37, 3) := by decide +kernel
theorem d_B_mayStandUnder_12 : decode b_B_mayStandUnder 12 = .ok (.ifCond .eq 35, 3) := by decide +kernel
theorem d_B_mayStandUnder_15 : decode b_B_mayStandUnder 15 = .ok (.aload_n 0, 1) := by decide +kernel
theorem d_B_mayStandUnder_16 : decode b_B_mayStandUnder 16 = .ok (.getfield 15, 3) := by decide +kernel
theorem d_B_mayStandUnder_19 : decode b_B_mayStandUnder 19 = .ok (.iload_n 2, 1) := by decide +kernel
theorem d_B_mayStandUnder_20 : decode b_B_mayStandUnder 20 = .ok (.iaload, 1) := by decide +kernel
theorem d_B_mayStandUnder_21 : decode b_B_mayStandUnder 21 = .ok (.iload_n 1, 1) := by decide +kernel
theorem d_B_mayStandUnder_22 : decode b_B_mayStandUnder 22 = .ok (.if_icmp .ne 25, 3) := by decide +kernel
theorem d_B_mayStandUnder_25 : decode b_B_mayStandUnder 25 = .ok (.aload_n 0, 1) := by decide +kernel
theorem d_B_mayStandUnder_26 : decode b_B_mayStandUnder 26 = .ok (.getfield 25, 3) := by decide +kernel
theorem d_B_mayStandUnder_29 : decode b_B_mayStandUnder 29 = .ok (.iload_n 2, 1) := by decide +kernel
theorem d_B_mayStandUnder_30 : decode b_B_mayStandUnder 30 = .ok (.iaload, 1) := by decide +kernel
theorem d_B_mayStandUnder_31 : decode b_B_mayStandUnder 31 = .ok (.iconst 4, 1) := by decide +kernel
theorem d_B_mayStandUnder_32 : decode b_B_mayStandUnder 32 = .ok (.if_icmp .ge 15, 3) := by decide +kernel
theorem d_B_mayStandUnder_35 : decode b_B_mayStandUnder 35 = .ok (.aload_n 0, 1) := by decide +kernel
theorem d_B_mayStandUnder_36 : decode b_B_mayStandUnder 36 = .ok (.iload_n 2, 1) := by decide +kernel
theorem d_B_mayStandUnder_37 : decode b_B_mayStandUnder 37 = .ok (.invokevirtual 41, 3) := by decide +kernel
theorem d_B_mayStandUnder_40 : decode b_B_mayStandUnder 40 = .ok (.ifCond .ne 7, 3) := by decide +kernel
theorem d_B_mayStandUnder_43 : decode b_B_mayStandUnder 43 = .ok (.iconst 1, 1) := by decide +kernel
theorem d_B_mayStandUnder_44 : decode b_B_mayStandUnder 44 = .ok (.goto 4, 3) := by decide +kernel
theorem d_B_mayStandUnder_47 : decode b_B_mayStandUnder 47 = .ok (.iconst 0, 1) := by decide +kernel
theorem d_B_mayStandUnder_48 : decode b_B_mayStandUnder 48 = .ok (.ireturn, 1) := by decide +kernel
theorem d_B_add_0 : decode b_B_add 0 = .ok (.aload_n 0, 1) := by decide +kernel
theorem d_B_add_1 : decode b_B_add 1 = .ok (.getfield 9, 3) := by decide +kernel
theorem d_B_add_4 : decode b_B_add 4 = .ok (.istore 5, 2) := by decide +kernel
theorem d_B_add_6 : decode b_B_add 6 = .ok (.aload_n 0, 1) := by decide +kernel
theorem d_B_add_7 : decode b_B_add 7 = .ok (.getfield 15, 3) := by decide +kernel
theorem d_B_add_10 : decode b_B_add 10 = .ok (.iload 5, 2) := by decide +kernel
theorem d_B_add_12 : decode b_B_add 12 = .ok (.iload_n 1, 1) := by decide +kernel
theorem d_B_add_13 : decode b_B_add 13 = .ok (.iastore, 1) := by decide +kernel
theorem d_B_add_14 : decode b_B_add 14 = .ok (.aload_n 0, 1) := by decide +kernel
theorem d_B_add_15 : decode b_B_add 15 = .ok (.getfield 19, 3) := by decide +kernel
theorem d_B_add_18 : decode b_B_add 18 = .ok (.iload 5, 2) := by decide +kernel
theorem d_B_add_20 : decode b_B_add 20 = .ok (.iload_n 2, 1) := by decide +kernel
theorem d_B_add_21 : decode b_B_add 21 = .ok (.iastore, 1) := by decide +kernel
theorem d_B_add_22 : decode b_B_add 22 = .ok (.aload_n 0, 1) := by decide +kernel
theorem d_B_add_23 : decode b_B_add 23 = .ok (.getfield 22, 3) := by decide +kernel
theorem d_B_add_26 : decode b_B_add 26 = .ok (.iload 5, 2) := by decide +kernel
theorem d_B_add_28 : decode b_B_add 28 = .ok (.iload_n 3, 1) := by decide +kernel
theorem d_B_add_29 : decode b_B_add 29 = .ok (.iastore, 1) := by decide +kernel
theorem d_B_add_30 : decode b_B_add 30 = .ok (.aload_n 0, 1) := by decide +kernel
theorem d_B_add_31 : decode b_B_add 31 = .ok (.getfield 25, 3) := by decide +kernel
theorem d_B_add_34 : decode b_B_add 34 = .ok (.iload 5, 2) := by decide +kernel
theorem d_B_add_36 : decode b_B_add 36 = .ok (.aload_n 0, 1) := by decide +kernel
theorem d_B_add_37 : decode b_B_add 37 = .ok (.iload_n 3, 1) := by decide +kernel
theorem d_B_add_38 : decode b_B_add 38 = .ok (.invokevirtual 37, 3) := by decide +kernel
theorem d_B_add_41 : decode b_B_add 41 = .ok (.ifCond .eq 14, 3) := by decide +kernel
theorem d_B_add_44 : decode b_B_add 44 = .ok (.aload_n 0, 1) := by decide +kernel
theorem d_B_add_45 : decode b_B_add 45 = .ok (.getfield 25, 3) := by decide +kernel
theorem d_B_add_48 : decode b_B_add 48 = .ok (.iload_n 3, 1) := by decide +kernel
theorem d_B_add_49 : decode b_B_add 49 = .ok (.iaload, 1) := by decide +kernel
theorem d_B_add_50 : decode b_B_add 50 = .ok (.iconst 1, 1) := by decide +kernel
theorem d_B_add_51 : decode b_B_add 51 = .ok (.iadd, 1) := by decide +kernel
theorem d_B_add_52 : decode b_B_add 52 = .ok (.goto 4, 3) := by decide +kernel
theorem d_B_add_55 : decode b_B_add 55 = .ok (.iconst 1, 1) := by decide +kernel
theorem d_B_add_56 : decode b_B_add 56 = .ok (.iastore, 1) := by decide +kernel
theorem d_B_add_57 : decode b_B_add 57 = .ok (.aload_n 0, 1) := by decide +kernel
theorem d_B_add_58 : decode b_B_add 58 = .ok (.getfield 28, 3) := by decide +kernel
theorem d_B_add_61 : decode b_B_add 61 = .ok (.iload 5, 2) := by decide +kernel
theorem d_B_add_63 : decode b_B_add 63 = .ok (.aload_n 0, 1) := by decide +kernel
theorem d_B_add_64 : decode b_B_add 64 = .ok (.iload_n 3, 1) := by decide +kernel
theorem d_B_add_65 : decode b_B_add 65 = .ok (.invokevirtual 37, 3) := by decide +kernel
theorem d_B_add_68 : decode b_B_add 68 = .ok (.ifCond .eq 12, 3) := by decide +kernel
theorem d_B_add_71 : decode b_B_add 71 = .ok (.aload_n 0, 1) := by decide +kernel
theorem d_B_add_72 : decode b_B_add 72 = .ok (.getfield 28, 3) := by decide +kernel
theorem d_B_add_75 : decode b_B_add 75 = .ok (.iload_n 3, 1) := by decide +kernel
theorem d_B_add_76 : decode b_B_add 76 = .ok (.iaload, 1) := by decide +kernel
theorem d_B_add_77 : decode b_B_add 77 = .ok (.goto 5, 3) := by decide +kernel
theorem d_B_add_80 : decode b_B_add 80 = .ok (.iload 5, 2) := by decide +kernel
theorem d_B_add_82 : decode b_B_add 82 = .ok (.iastore, 1) := by decide +kernel
theorem d_B_add_83 : decode b_B_add 83 = .ok (.aload_n 0, 1) := by decide +kernel
theorem d_B_add_84 : decode b_B_add 84 = .ok (.getfield 31, 3) := by decide +kernel
theorem d_B_add_87 : decode b_B_add 87 = .ok (.iload 5, 2) := by decide +kernel
theorem d_B_add_89 : decode b_B_add 89 = .ok (.iload 4, 2) := by decide +kernel
theorem d_B_add_91 : decode b_B_add 91 = .ok (.iastore, 1) := by decide +kernel
theorem d_B_add_92 : decode b_B_add 92 = .ok (.aload_n 0, 1) := by decide +kernel
theorem d_B_add_93 : decode b_B_add 93 = .ok (.getfield 34, 3) := by decide +kernel
theorem d_B_add_96 : decode b_B_add 96 = .ok (.iload 5, 2) := by decide +kernel
theorem d_B_add_98 : decode b_B_add 98 = .ok (.iconst 0, 1) := by decide +kernel
theorem d_B_add_99 : decode b_B_add 99 = .ok (.iastore, 1) := by decide +kernel
theorem d_B_add_100 : decode b_B_add 100 = .ok (.aload_n 0, 1) := by decide +kernel
theorem d_B_add_101 : decode b_B_add 101 = .ok (.dup, 1) := by decide +kernel
theorem d_B_add_102 : decode b_B_add 102 = .ok (.getfield 9, 3) := by decide +kernel
theorem d_B_add_105 : decode b_B_add 105 = .ok (.iconst 1, 1) := by decide +kernel
theorem d_B_add_106 : decode b_B_add 106 = .ok (.iadd, 1) := by decide +kernel
theorem d_B_add_107 : decode b_B_add 107 = .ok (.putfield 9, 3) := by decide +kernel
theorem d_B_add_110 : decode b_B_add 110 = .ok (.iload 5, 2) := by decide +kernel
theorem d_B_add_112 : decode b_B_add 112 = .ok (.ireturn, 1) := by decide +kernel
theorem d_B_nextFreeNumber_0 : decode b_B_nextFreeNumber 0 = .ok (.iconst 1, 1) := by decide +kernel
theorem d_B_nextFreeNumber_1 : decode b_B_nextFreeNumber 1 = .ok (.istore_n 2, 1) := by decide +kernel
theorem d_B_nextFreeNumber_2 : decode b_B_nextFreeNumber 2 = .ok (.iload_n 2, 1) := by decide +kernel
theorem d_B_nextFreeNumber_3 : decode b_B_nextFreeNumber 3 = .ok (.bipush 60, 2) := by decide +kernel
theorem d_B_nextFreeNumber_5 : decode b_B_nextFreeNumber 5 = .ok (.if_icmp .gt 42, 3) := by decide +kernel
theorem d_B_nextFreeNumber_8 : decode b_B_nextFreeNumber 8 = .ok (.aload_n 0, 1) := by decide +kernel
theorem d_B_nextFreeNumber_9 : decode b_B_nextFreeNumber 9 = .ok (.getfield 19, 3) := by decide +kernel
theorem d_B_nextFreeNumber_12 : decode b_B_nextFreeNumber 12 = .ok (.iload_n 1, 1) := by decide +kernel
theorem d_B_nextFreeNumber_13 : decode b_B_nextFreeNumber 13 = .ok (.iaload, 1) := by decide +kernel
theorem d_B_nextFreeNumber_14 : decode b_B_nextFreeNumber 14 = .ok (.iload_n 2, 1) := by decide +kernel
theorem d_B_nextFreeNumber_15 : decode b_B_nextFreeNumber 15 = .ok (.iadd, 1) := by decide +kernel
theorem d_B_nextFreeNumber_16 : decode b_B_nextFreeNumber 16 = .ok (.istore_n 3, 1) := by decide +kernel
theorem d_B_nextFreeNumber_17 : decode b_B_nextFreeNumber 17 = .ok (.iload_n 3, 1) := by decide +kernel
theorem d_B_nextFreeNumber_18 : decode b_B_nextFreeNumber 18 = .ok (.ldc 44, 2) := by decide +kernel
theorem d_B_nextFreeNumber_20 : decode b_B_nextFreeNumber 20 = .ok (.if_icmp .le 5, 3) := by decide +kernel
theorem d_B_nextFreeNumber_23 : decode b_B_nextFreeNumber 23 = .ok (.iconst (-1), 1) := by decide +kernel
theorem d_B_nextFreeNumber_24 : decode b_B_nextFreeNumber 24 = .ok (.ireturn, 1) := by decide +kernel
theorem d_B_nextFreeNumber_25 : decode b_B_nextFreeNumber 25 = .ok (.aload_n 0, 1) := by decide +kernel
theorem d_B_nextFreeNumber_26 : decode b_B_nextFreeNumber 26 = .ok (.aload_n 0, 1) := by decide +kernel
theorem d_B_nextFreeNumber_27 : decode b_B_nextFreeNumber 27 = .ok (.getfield 15, 3) := by decide +kernel
theorem d_B_nextFreeNumber_30 : decode b_B_nextFreeNumber 30 = .ok (.iload_n 1, 1) := by decide +kernel
theorem d_B_nextFreeNumber_31 : decode b_B_nextFreeNumber 31 = .ok (.iaload, 1) := by decide +kernel
theorem d_B_nextFreeNumber_32 : decode b_B_nextFreeNumber 32 = .ok (.iload_n 3, 1) := by decide +kernel
theorem d_B_nextFreeNumber_33 : decode b_B_nextFreeNumber 33 = .ok (.invokevirtual 45, 3) := by decide +kernel
theorem d_B_nextFreeNumber_36 : decode b_B_nextFreeNumber 36 = .ok (.ifCond .ne 5, 3) := by decide +kernel
theorem d_B_nextFreeNumber_39 : decode b_B_nextFreeNumber 39 = .ok (.iload_n 3, 1) := by decide +kernel
theorem d_B_nextFreeNumber_40 : decode b_B_nextFreeNumber 40 = .ok (.ireturn, 1) := by decide +kernel
theorem d_B_nextFreeNumber_41 : decode b_B_nextFreeNumber 41 = .ok (.iinc 2 1, 3) := by decide +kernel
theorem d_B_nextFreeNumber_44 : decode b_B_nextFreeNumber 44 = .ok (.goto (-42), 3) := by decide +kernel
theorem d_B_nextFreeNumber_47 : decode b_B_nextFreeNumber 47 = .ok (.iconst (-1), 1) := by decide +kernel
theorem d_B_nextFreeNumber_48 : decode b_B_nextFreeNumber 48 = .ok (.ireturn, 1) := by decide +kernel
theorem d_B_under_0 : decode b_B_under 0 = .ok (.iconst 0, 1) := by decide +kernel
theorem d_B_under_1 : decode b_B_under 1 = .ok (.istore_n 2, 1) := by decide +kernel
theorem d_B_under_2 : decode b_B_under 2 = .ok (.iconst 0, 1) := by decide +kernel
theorem d_B_under_3 : decode b_B_under 3 = .ok (.istore_n 3, 1) := by decide +kernel
theorem d_B_under_4 : decode b_B_under 4 = .ok (.iload_n 3, 1) := by decide +kernel
theorem d_B_under_5 : decode b_B_under 5 = .ok (.aload_n 0, 1) := by decide +kernel
theorem d_B_under_6 : decode b_B_under 6 = .ok (.getfield 9, 3) := by decide +kernel
theorem d_B_under_9 : decode b_B_under 9 = .ok (.if_icmp .ge 22, 3) := by decide +kernel
theorem d_B_under_12 : decode b_B_under 12 = .ok (.aload_n 0, 1) := by decide +kernel
theorem d_B_under_13 : decode b_B_under 13 = .ok (.getfield 22, 3) := by decide +kernel
theorem d_B_under_16 : decode b_B_under 16 = .ok (.iload_n 3, 1) := by decide +kernel
theorem d_B_under_17 : decode b_B_under 17 = .ok (.iaload, 1) := by decide +kernel
theorem d_B_under_18 : decode b_B_under 18 = .ok (.iload_n 1, 1) := by decide +kernel
theorem d_B_under_19 : decode b_B_under 19 = .ok (.if_icmp .ne 6, 3) := by decide +kernel
theorem d_B_under_22 : decode b_B_under 22 = .ok (.iinc 2 1, 3) := by decide +kernel
theorem d_B_under_25 : decode b_B_under 25 = .ok (.iinc 3 1, 3) := by decide +kernel
theorem d_B_under_28 : decode b_B_under 28 = .ok (.goto (-24), 3) := by decide +kernel
theorem d_B_under_31 : decode b_B_under 31 = .ok (.iload_n 2, 1) := by decide +kernel
theorem d_B_under_32 : decode b_B_under 32 = .ok (.ireturn, 1) := by decide +kernel
theorem d_N_init_0 : decode b_N_init 0 = .ok (.aload_n 0, 1) := by decide +kernel
theorem d_N_init_1 : decode b_N_init 1 = .ok (.invokespecial 3, 3) := by decide +kernel
theorem d_N_init_4 : decode b_N_init 4 = .ok (.aload_n 0, 1) := by decide +kernel
theorem d_N_init_5 : decode b_N_init 5 = .ok (.iconst 0, 1) := by decide +kernel
theorem d_N_init_6 : decode b_N_init 6 = .ok (.putfield 9, 3) := by decide +kernel
theorem d_N_init_9 : decode b_N_init 9 = .ok (.aload_n 0, 1) := by decide +kernel
theorem d_N_init_10 : decode b_N_init 10 = .ok (.sipush 200, 3) := by decide +kernel
theorem d_N_init_13 : decode b_N_init 13 = .ok (.newarray .int, 2) := by decide +kernel
theorem d_N_init_15 : decode b_N_init 15 = .ok (.putfield 15, 3) := by decide +kernel
end
section
theorem d_N_init_18 : decode b_N_init 18 = .ok (.aload_n 0, 1) := by decide +kernel
theorem d_N_init_19 : decode b_N_init 19 = .ok (.sipush 200, 3) := by decide +kernel
theorem d_N_init_22 : decode b_N_init 22 = .ok (.newarray .int, 2) := by decide +kernel
theorem d_N_init_24 : decode b_N_init 24 = .ok (.putfield 19, 3) := by decide +kernel
theorem d_N_init_27 : decode b_N_init 27 = .ok (.aload_n 0, 1) := by decide +kernel
theorem d_N_init_28 : decode b_N_init 28 = .ok (.bipush 60, 2) := by decide +kernel
theorem d_N_init_30 : decode b_N_init 30 = .ok (.newarray .int, 2) := by decide +kernel
theorem d_N_init_32 : decode b_N_init 32 = .ok (.putfield 22, 3) := by decide +kernel
theorem d_N_init_35 : decode b_N_init 35 = .ok (.aload_n 0, 1) := by decide +kernel
theorem d_N_init_36 : decode b_N_init 36 = .ok (.bipush 60, 2) := by decide +kernel
theorem d_N_init_38 : decode b_N_init 38 = .ok (.newarray .int, 2) := by decide +kernel
theorem d_N_init_40 : decode b_N_init 40 = .ok (.putfield 25, 3) := by decide +kernel
theorem d_N_init_43 : decode b_N_init 43 = .ok (.aload_n 0, 1) := by decide +kernel
theorem d_N_init_44 : decode b_N_init 44 = .ok (.bipush 60, 2) := by decide +kernel
theorem d_N_init_46 : decode b_N_init 46 = .ok (.newarray .int, 2) := by decide +kernel
theorem d_N_init_48 : decode b_N_init 48 = .ok (.putfield 28, 3) := by decide +kernel
theorem d_N_init_51 : decode b_N_init 51 = .ok (.return_, 1) := by decide +kernel
theorem d_N_isFull_0 : decode b_N_isFull 0 = .ok (.aload_n 0, 1) := by decide +kernel
theorem d_N_isFull_1 : decode b_N_isFull 1 = .ok (.getfield 9, 3) := by decide +kernel
theorem d_N_isFull_4 : decode b_N_isFull 4 = .ok (.sipush 200, 3) := by decide +kernel
theorem d_N_isFull_7 : decode b_N_isFull 7 = .ok (.if_icmp .lt 7, 3) := by decide +kernel
theorem d_N_isFull_10 : decode b_N_isFull 10 = .ok (.iconst 1, 1) := by decide +kernel
theorem d_N_isFull_11 : decode b_N_isFull 11 = .ok (.goto 4, 3) := by decide +kernel
theorem d_N_isFull_14 : decode b_N_isFull 14 = .ok (.iconst 0, 1) := by decide +kernel
theorem d_N_isFull_15 : decode b_N_isFull 15 = .ok (.ireturn, 1) := by decide +kernel
theorem d_N_add_0 : decode b_N_add 0 = .ok (.aload_n 0, 1) := by decide +kernel
theorem d_N_add_1 : decode b_N_add 1 = .ok (.getfield 15, 3) := by decide +kernel
theorem d_N_add_4 : decode b_N_add 4 = .ok (.aload_n 0, 1) := by decide +kernel
theorem d_N_add_5 : decode b_N_add 5 = .ok (.getfield 9, 3) := by decide +kernel
theorem d_N_add_8 : decode b_N_add 8 = .ok (.iload_n 1, 1) := by decide +kernel
theorem d_N_add_9 : decode b_N_add 9 = .ok (.iastore, 1) := by decide +kernel
theorem d_N_add_10 : decode b_N_add 10 = .ok (.aload_n 0, 1) := by decide +kernel
theorem d_N_add_11 : decode b_N_add 11 = .ok (.getfield 19, 3) := by decide +kernel
theorem d_N_add_14 : decode b_N_add 14 = .ok (.aload_n 0, 1) := by decide +kernel
theorem d_N_add_15 : decode b_N_add 15 = .ok (.getfield 9, 3) := by decide +kernel
theorem d_N_add_18 : decode b_N_add 18 = .ok (.iload_n 2, 1) := by decide +kernel
theorem d_N_add_19 : decode b_N_add 19 = .ok (.iastore, 1) := by decide +kernel
theorem d_N_add_20 : decode b_N_add 20 = .ok (.aload_n 0, 1) := by decide +kernel
theorem d_N_add_21 : decode b_N_add 21 = .ok (.dup, 1) := by decide +kernel
theorem d_N_add_22 : decode b_N_add 22 = .ok (.getfield 9, 3) := by decide +kernel
theorem d_N_add_25 : decode b_N_add 25 = .ok (.iconst 1, 1) := by decide +kernel
theorem d_N_add_26 : decode b_N_add 26 = .ok (.iadd, 1) := by decide +kernel
theorem d_N_add_27 : decode b_N_add 27 = .ok (.putfield 9, 3) := by decide +kernel
theorem d_N_add_30 : decode b_N_add 30 = .ok (.aload_n 0, 1) := by decide +kernel
theorem d_N_add_31 : decode b_N_add 31 = .ok (.getfield 25, 3) := by decide +kernel
theorem d_N_add_34 : decode b_N_add 34 = .ok (.iload_n 1, 1) := by decide +kernel
theorem d_N_add_35 : decode b_N_add 35 = .ok (.dup2, 1) := by decide +kernel
theorem d_N_add_36 : decode b_N_add 36 = .ok (.iaload, 1) := by decide +kernel
theorem d_N_add_37 : decode b_N_add 37 = .ok (.iload_n 2, 1) := by decide +kernel
theorem d_N_add_38 : decode b_N_add 38 = .ok (.iadd, 1) := by decide +kernel
theorem d_N_add_39 : decode b_N_add 39 = .ok (.iastore, 1) := by decide +kernel
theorem d_N_add_40 : decode b_N_add 40 = .ok (.aload_n 0, 1) := by decide +kernel
theorem d_N_add_41 : decode b_N_add 41 = .ok (.getfield 28, 3) := by decide +kernel
theorem d_N_add_44 : decode b_N_add 44 = .ok (.iload_n 1, 1) := by decide +kernel
theorem d_N_add_45 : decode b_N_add 45 = .ok (.dup2, 1) := by decide +kernel
theorem d_N_add_46 : decode b_N_add 46 = .ok (.iaload, 1) := by decide +kernel
theorem d_N_add_47 : decode b_N_add 47 = .ok (.iload_n 3, 1) := by decide +kernel
theorem d_N_add_48 : decode b_N_add 48 = .ok (.iadd, 1) := by decide +kernel
theorem d_N_add_49 : decode b_N_add 49 = .ok (.iastore, 1) := by decide +kernel
theorem d_N_add_50 : decode b_N_add 50 = .ok (.aload_n 0, 1) := by decide +kernel
theorem d_N_add_51 : decode b_N_add 51 = .ok (.getfield 22, 3) := by decide +kernel
theorem d_N_add_54 : decode b_N_add 54 = .ok (.iload_n 1, 1) := by decide +kernel
theorem d_N_add_55 : decode b_N_add 55 = .ok (.dup2, 1) := by decide +kernel
theorem d_N_add_56 : decode b_N_add 56 = .ok (.iaload, 1) := by decide +kernel
theorem d_N_add_57 : decode b_N_add 57 = .ok (.iconst 1, 1) := by decide +kernel
theorem d_N_add_58 : decode b_N_add 58 = .ok (.iadd, 1) := by decide +kernel
theorem d_N_add_59 : decode b_N_add 59 = .ok (.iastore, 1) := by decide +kernel
theorem d_N_add_60 : decode b_N_add 60 = .ok (.aload_n 0, 1) := by decide +kernel
theorem d_N_add_61 : decode b_N_add 61 = .ok (.getfield 22, 3) := by decide +kernel
theorem d_N_add_64 : decode b_N_add 64 = .ok (.iload_n 1, 1) := by decide +kernel
theorem d_N_add_65 : decode b_N_add 65 = .ok (.iaload, 1) := by decide +kernel
theorem d_N_add_66 : decode b_N_add 66 = .ok (.iconst 1, 1) := by decide +kernel
theorem d_N_add_67 : decode b_N_add 67 = .ok (.isub, 1) := by decide +kernel
theorem d_N_add_68 : decode b_N_add 68 = .ok (.ireturn, 1) := by decide +kernel
theorem d_N_rowOf_0 : decode b_N_rowOf 0 = .ok (.iconst 0, 1) := by decide +kernel
theorem d_N_rowOf_1 : decode b_N_rowOf 1 = .ok (.istore_n 3, 1) := by decide +kernel
theorem d_N_rowOf_2 : decode b_N_rowOf 2 = .ok (.iconst 0, 1) := by decide +kernel
theorem d_N_rowOf_3 : decode b_N_rowOf 3 = .ok (.istore 4, 2) := by decide +kernel
theorem d_N_rowOf_5 : decode b_N_rowOf 5 = .ok (.iload 4, 2) := by decide +kernel
theorem d_N_rowOf_7 : decode b_N_rowOf 7 = .ok (.aload_n 0, 1) := by decide +kernel
theorem d_N_rowOf_8 : decode b_N_rowOf 8 = .ok (.getfield 9, 3) := by decide +kernel
theorem d_N_rowOf_11 : decode b_N_rowOf 11 = .ok (.if_icmp .ge 31, 3) := by decide +kernel
theorem d_N_rowOf_14 : decode b_N_rowOf 14 = .ok (.aload_n 0, 1) := by decide +kernel
theorem d_N_rowOf_15 : decode b_N_rowOf 15 = .ok (.getfield 15, 3) := by decide +kernel
theorem d_N_rowOf_18 : decode b_N_rowOf 18 = .ok (.iload 4, 2) := by decide +kernel
theorem d_N_rowOf_20 : decode b_N_rowOf 20 = .ok (.iaload, 1) := by decide +kernel
theorem d_N_rowOf_21 : decode b_N_rowOf 21 = .ok (.iload_n 1, 1) := by decide +kernel
theorem d_N_rowOf_22 : decode b_N_rowOf 22 = .ok (.if_icmp .ne 14, 3) := by decide +kernel
theorem d_N_rowOf_25 : decode b_N_rowOf 25 = .ok (.iload_n 3, 1) := by decide +kernel
theorem d_N_rowOf_26 : decode b_N_rowOf 26 = .ok (.iload_n 2, 1) := by decide +kernel
theorem d_N_rowOf_27 : decode b_N_rowOf 27 = .ok (.if_icmp .ne 6, 3) := by decide +kernel
theorem d_N_rowOf_30 : decode b_N_rowOf 30 = .ok (.iload 4, 2) := by decide +kernel
theorem d_N_rowOf_32 : decode b_N_rowOf 32 = .ok (.ireturn, 1) := by decide +kernel
theorem d_N_rowOf_33 : decode b_N_rowOf 33 = .ok (.iinc 3 1, 3) := by decide +kernel
theorem d_N_rowOf_36 : decode b_N_rowOf 36 = .ok (.iinc 4 1, 3) := by decide +kernel
theorem d_N_rowOf_39 : decode b_N_rowOf 39 = .ok (.goto (-34), 3) := by decide +kernel
theorem d_N_rowOf_42 : decode b_N_rowOf 42 = .ok (.iconst (-1), 1) := by decide +kernel
theorem d_N_rowOf_43 : decode b_N_rowOf 43 = .ok (.ireturn, 1) := by decide +kernel
theorem d_N_changeWeight_0 : decode b_N_changeWeight 0 = .ok (.iload_n 2, 1) := by decide +kernel
theorem d_N_changeWeight_1 : decode b_N_changeWeight 1 = .ok (.aload_n 0, 1) := by decide +kernel
theorem d_N_changeWeight_2 : decode b_N_changeWeight 2 = .ok (.getfield 19, 3) := by decide +kernel
theorem d_N_changeWeight_5 : decode b_N_changeWeight 5 = .ok (.iload_n 1, 1) := by decide +kernel
theorem d_N_changeWeight_6 : decode b_N_changeWeight 6 = .ok (.iaload, 1) := by decide +kernel
theorem d_N_changeWeight_7 : decode b_N_changeWeight 7 = .ok (.isub, 1) := by decide +kernel
theorem d_N_changeWeight_8 : decode b_N_changeWeight 8 = .ok (.istore_n 3, 1) := by decide +kernel
theorem d_N_changeWeight_9 : decode b_N_changeWeight 9 = .ok (.aload_n 0, 1) := by decide +kernel
theorem d_N_changeWeight_10 : decode b_N_changeWeight 10 = .ok (.getfield 19, 3) := by decide +kernel
theorem d_N_changeWeight_13 : decode b_N_changeWeight 13 = .ok (.iload_n 1, 1) := by decide +kernel
theorem d_N_changeWeight_14 : decode b_N_changeWeight 14 = .ok (.iload_n 2, 1) := by decide +kernel
theorem d_N_changeWeight_15 : decode b_N_changeWeight 15 = .ok (.iastore, 1) := by decide +kernel
theorem d_N_changeWeight_16 : decode b_N_changeWeight 16 = .ok (.aload_n 0, 1) := by decide +kernel
theorem d_N_changeWeight_17 : decode b_N_changeWeight 17 = .ok (.getfield 25, 3) := by decide +kernel
theorem d_N_changeWeight_20 : decode b_N_changeWeight 20 = .ok (.aload_n 0, 1) := by decide +kernel
theorem d_N_changeWeight_21 : decode b_N_changeWeight 21 = .ok (.getfield 15, 3) := by decide +kernel
theorem d_N_changeWeight_24 : decode b_N_changeWeight 24 = .ok (.iload_n 1, 1) := by decide +kernel
theorem d_N_changeWeight_25 : decode b_N_changeWeight 25 = .ok (.iaload, 1) := by decide +kernel
theorem d_N_changeWeight_26 : decode b_N_changeWeight 26 = .ok (.dup2, 1) := by decide +kernel
theorem d_N_changeWeight_27 : decode b_N_changeWeight 27 = .ok (.iaload, 1) := by decide +kernel
theorem d_N_changeWeight_28 : decode b_N_changeWeight 28 = .ok (.iload_n 3, 1) := by decide +kernel
theorem d_N_changeWeight_29 : decode b_N_changeWeight 29 = .ok (.iadd, 1) := by decide +kernel
theorem d_N_changeWeight_30 : decode b_N_changeWeight 30 = .ok (.iastore, 1) := by decide +kernel
theorem d_N_changeWeight_31 : decode b_N_changeWeight 31 = .ok (.iload_n 3, 1) := by decide +kernel
theorem d_N_changeWeight_32 : decode b_N_changeWeight 32 = .ok (.ireturn, 1) := by decide +kernel
theorem d_N_take_0 : decode b_N_take 0 = .ok (.iload_n 2, 1) := by decide +kernel
theorem d_N_take_1 : decode b_N_take 1 = .ok (.istore_n 3, 1) := by decide +kernel
theorem d_N_take_2 : decode b_N_take 2 = .ok (.aload_n 0, 1) := by decide +kernel
theorem d_N_take_3 : decode b_N_take 3 = .ok (.getfield 9, 3) := by decide +kernel
theorem d_N_take_6 : decode b_N_take 6 = .ok (.iconst 1, 1) := by decide +kernel
theorem d_N_take_7 : decode b_N_take 7 = .ok (.isub, 1) := by decide +kernel
theorem d_N_take_8 : decode b_N_take 8 = .ok (.istore 4, 2) := by decide +kernel
theorem d_N_take_10 : decode b_N_take 10 = .ok (.iload 4, 2) := by decide +kernel
theorem d_N_take_12 : decode b_N_take 12 = .ok (.ifCond .lt 59, 3) := by decide +kernel
theorem d_N_take_15 : decode b_N_take 15 = .ok (.iload_n 3, 1) := by decide +kernel
theorem d_N_take_16 : decode b_N_take 16 = .ok (.ifCond .le 55, 3) := by decide +kernel
theorem d_N_take_19 : decode b_N_take 19 = .ok (.aload_n 0, 1) := by decide +kernel
theorem d_N_take_20 : decode b_N_take 20 = .ok (.getfield 15, 3) := by decide +kernel
theorem d_N_take_23 : decode b_N_take 23 = .ok (.iload 4, 2) := by decide +kernel
theorem d_N_take_25 : decode b_N_take 25 = .ok (.iaload, 1) := by decide +kernel
theorem d_N_take_26 : decode b_N_take 26 = .ok (.iload_n 1, 1) := by decide +kernel
theorem d_N_take_27 : decode b_N_take 27 = .ok (.if_icmp .ne 38, 3) := by decide +kernel
theorem d_N_take_30 : decode b_N_take 30 = .ok (.iload_n 3, 1) := by decide +kernel
theorem d_N_take_31 : decode b_N_take 31 = .ok (.aload_n 0, 1) := by decide +kernel
theorem d_N_take_32 : decode b_N_take 32 = .ok (.getfield 19, 3) := by decide +kernel
theorem d_N_take_35 : decode b_N_take 35 = .ok (.iload 4, 2) := by decide +kernel
theorem d_N_take_37 : decode b_N_take 37 = .ok (.iaload, 1) := by decide +kernel
theorem d_N_take_38 : decode b_N_take 38 = .ok (.invokestatic 31, 3) := by decide +kernel
theorem d_N_take_41 : decode b_N_take 41 = .ok (.istore 5, 2) := by decide +kernel
theorem d_N_take_43 : decode b_N_take 43 = .ok (.aload_n 0, 1) := by decide +kernel
theorem d_N_take_44 : decode b_N_take 44 = .ok (.iload 4, 2) := by decide +kernel
theorem d_N_take_46 : decode b_N_take 46 = .ok (.aload_n 0, 1) := by decide +kernel
theorem d_N_take_47 : decode b_N_take 47 = .ok (.getfield 19, 3) := by decide +kernel
theorem d_N_take_50 : decode b_N_take 50 = .ok (.iload 4, 2) := by decide +kernel
theorem d_N_take_52 : decode b_N_take 52 = .ok (.iaload, 1) := by decide +kernel
theorem d_N_take_53 : decode b_N_take 53 = .ok (.iload 5, 2) := by decide +kernel
theorem d_N_take_55 : decode b_N_take 55 = .ok (.isub, 1) := by decide +kernel
theorem d_N_take_56 : decode b_N_take 56 = .ok (.invokevirtual 37, 3) := by decide +kernel
theorem d_N_take_59 : decode b_N_take 59 = .ok (.pop, 1) := by decide +kernel
theorem d_N_take_60 : decode b_N_take 60 = .ok (.iload_n 3, 1) := by decide +kernel
theorem d_N_take_61 : decode b_N_take 61 = .ok (.iload 5, 2) := by decide +kernel
theorem d_N_take_63 : decode b_N_take 63 = .ok (.isub, 1) := by decide +kernel
theorem d_N_take_64 : decode b_N_take 64 = .ok (.istore_n 3, 1) := by decide +kernel
theorem d_N_take_65 : decode b_N_take 65 = .ok (.iinc 4 (-1), 3) := by decide +kernel
theorem d_N_take_68 : decode b_N_take 68 = .ok (.goto (-58), 3) := by decide +kernel
theorem d_N_take_71 : decode b_N_take 71 = .ok (.return_, 1) := by decide +kernel
theorem d_X_init_0 : decode b_X_init 0 = .ok (.aload_n 0, 1) := by decide +kernel
theorem d_X_init_1 : decode b_X_init 1 = .ok (.invokespecial 3, 3) := by decide +kernel
theorem d_X_init_4 : decode b_X_init 4 = .ok (.aload_n 0, 1) := by decide +kernel
theorem d_X_init_5 : decode b_X_init 5 = .ok (.iconst 0, 1) := by decide +kernel
theorem d_X_init_6 : decode b_X_init 6 = .ok (.putfield 9, 3) := by decide +kernel
theorem d_X_init_9 : decode b_X_init 9 = .ok (.aload_n 0, 1) := by decide +kernel
theorem d_X_init_10 : decode b_X_init 10 = .ok (.bipush 60, 2) := by decide +kernel
theorem d_X_init_12 : decode b_X_init 12 = .ok (.newarray .int, 2) := by decide +kernel
theorem d_X_init_14 : decode b_X_init 14 = .ok (.putfield 15, 3) := by decide +kernel
theorem d_X_init_17 : decode b_X_init 17 = .ok (.aload_n 0, 1) := by decide +kernel
theorem d_X_init_18 : decode b_X_init 18 = .ok (.bipush 60, 2) := by decide +kernel
theorem d_X_init_20 : decode b_X_init 20 = .ok (.newarray .int, 2) := by decide +kernel
theorem d_X_init_22 : decode b_X_init 22 = .ok (.putfield 19, 3) := by decide +kernel
theorem d_X_init_25 : decode b_X_init 25 = .ok (.aload_n 0, 1) := by decide +kernel
theorem d_X_init_26 : decode b_X_init 26 = .ok (.bipush 60, 2) := by decide +kernel
theorem d_X_init_28 : decode b_X_init 28 = .ok (.newarray .int, 2) := by decide +kernel
theorem d_X_init_30 : decode b_X_init 30 = .ok (.putfield 22, 3) := by decide +kernel
theorem d_X_init_33 : decode b_X_init 33 = .ok (.aload_n 0, 1) := by decide +kernel
theorem d_X_init_34 : decode b_X_init 34 = .ok (.bipush 60, 2) := by decide +kernel
theorem d_X_init_36 : decode b_X_init 36 = .ok (.newarray .int, 2) := by decide +kernel
theorem d_X_init_38 : decode b_X_init 38 = .ok (.putfield 25, 3) := by decide +kernel
theorem d_X_init_41 : decode b_X_init 41 = .ok (.aload_n 0, 1) := by decide +kernel
theorem d_X_init_42 : decode b_X_init 42 = .ok (.bipush 60, 2) := by decide +kernel
theorem d_X_init_44 : decode b_X_init 44 = .ok (.newarray .long, 2) := by decide +kernel
theorem d_X_init_46 : decode b_X_init 46 = .ok (.putfield 28, 3) := by decide +kernel
theorem d_X_init_49 : decode b_X_init 49 = .ok (.aload_n 0, 1) := by decide +kernel
theorem d_X_init_50 : decode b_X_init 50 = .ok (.bipush 60, 2) := by decide +kernel
theorem d_X_init_52 : decode b_X_init 52 = .ok (.newarray .int, 2) := by decide +kernel
theorem d_X_init_54 : decode b_X_init 54 = .ok (.putfield 32, 3) := by decide +kernel
theorem d_X_init_57 : decode b_X_init 57 = .ok (.aload_n 0, 1) := by decide +kernel
theorem d_X_init_58 : decode b_X_init 58 = .ok (.bipush 60, 2) := by decide +kernel
theorem d_X_init_60 : decode b_X_init 60 = .ok (.newarray .int, 2) := by decide +kernel
theorem d_X_init_62 : decode b_X_init 62 = .ok (.putfield 35, 3) := by decide +kernel
theorem d_X_init_65 : decode b_X_init 65 = .ok (.aload_n 0, 1) := by decide +kernel
theorem d_X_init_66 : decode b_X_init 66 = .ok (.bipush 60, 2) := by decide +kernel
theorem d_X_init_68 : decode b_X_init 68 = .ok (.newarray .int, 2) := by decide +kernel
theorem d_X_init_70 : decode b_X_init 70 = .ok (.putfield 38, 3) := by decide +kernel
theorem d_X_init_73 : decode b_X_init 73 = .ok (.return_, 1) := by decide +kernel
theorem d_X_has_0 : decode b_X_has 0 = .ok (.iload_n 1, 1) := by decide +kernel
theorem d_X_has_1 : decode b_X_has 1 = .ok (.ifCond .lt 15, 3) := by decide +kernel
theorem d_X_has_4 : decode b_X_has 4 = .ok (.iload_n 1, 1) := by decide +kernel
theorem d_X_has_5 : decode b_X_has 5 = .ok (.aload_n 0, 1) := by decide +kernel
theorem d_X_has_6 : decode b_X_has 6 = .ok (.getfield 9, 3) := by decide +kernel
theorem d_X_has_9 : decode b_X_has 9 = .ok (.if_icmp .ge 7, 3) := by decide +kernel
theorem d_X_has_12 : decode b_X_has 12 = .ok (.iconst 1, 1) := by decide +kernel
theorem d_X_has_13 : decode b_X_has 13 = .ok (.goto 4, 3) := by decide +kernel
theorem d_X_has_16 : decode b_X_has 16 = .ok (.iconst 0, 1) := by decide +kernel
theorem d_X_has_17 : decode b_X_has 17 = .ok (.ireturn, 1) := by decide +kernel
theorem d_X_isFull_0 : decode b_X_isFull 0 = .ok (.aload_n 0, 1) := by decide +kernel
theorem d_X_isFull_1 : decode b_X_isFull 1 = .ok (.getfield 9, 3) := by decide +kernel
theorem d_X_isFull_4 : decode b_X_isFull 4 = .ok (.bipush 60, 2) := by decide +kernel
theorem d_X_isFull_6 : decode b_X_isFull 6 = .ok (.if_icmp .lt 7, 3) := by decide +kernel
theorem d_X_isFull_9 : decode b_X_isFull 9 = .ok (.iconst 1, 1) := by decide +kernel
theorem d_X_isFull_10 : decode b_X_isFull 10 = .ok (.goto 4, 3) := by decide +kernel
theorem d_X_isFull_13 : decode b_X_isFull 13 = .ok (.iconst 0, 1) := by decide +kernel
theorem d_X_isFull_14 : decode b_X_isFull 14 = .ok (.ireturn, 1) := by decide +kernel
theorem d_X_isTaken_0 : decode b_X_isTaken 0 = .ok (.iconst 0, 1) := by decide +kernel
theorem d_X_isTaken_1 : decode b_X_isTaken 1 = .ok (.istore_n 3, 1) := by decide +kernel
theorem d_X_isTaken_2 : decode b_X_isTaken 2 = .ok (.iload_n 3, 1) := by decide +kernel
theorem d_X_isTaken_3 : decode b_X_isTaken 3 = .ok (.aload_n 0, 1) := by decide +kernel
theorem d_X_isTaken_4 : decode b_X_isTaken 4 = .ok (.getfield 9, 3) := by decide +kernel
theorem d_X_isTaken_7 : decode b_X_isTaken 7 = .ok (.if_icmp .ge 31, 3) := by decide +kernel
theorem d_X_isTaken_10 : decode b_X_isTaken 10 = .ok (.aload_n 0, 1) := by decide +kernel
theorem d_X_isTaken_11 : decode b_X_isTaken 11 = .ok (.getfield 15, 3) := by decide +kernel
theorem d_X_isTaken_14 : decode b_X_isTaken 14 = .ok (.iload_n 3, 1) := by decide +kernel
theorem d_X_isTaken_15 : decode b_X_isTaken 15 = .ok (.iaload, 1) := by decide +kernel
theorem d_X_isTaken_16 : decode b_X_isTaken 16 = .ok (.iload_n 1, 1) := by decide +kernel
theorem d_X_isTaken_17 : decode b_X_isTaken 17 = .ok (.if_icmp .ne 15, 3) := by decide +kernel
theorem d_X_isTaken_20 : decode b_X_isTaken 20 = .ok (.aload_n 0, 1) := by decide +kernel
theorem d_X_isTaken_21 : decode b_X_isTaken 21 = .ok (.getfield 19, 3) := by decide +kernel
theorem d_X_isTaken_24 : decode b_X_isTaken 24 = .ok (.iload_n 3, 1) := by decide +kernel
theorem d_X_isTaken_25 : decode b_X_isTaken 25 = .ok (.iaload, 1) := by decide +kernel
theorem d_X_isTaken_26 : decode b_X_isTaken 26 = .ok (.iload_n 2, 1) := by decide +kernel
theorem d_X_isTaken_27 : decode b_X_isTaken 27 = .ok (.if_icmp .ne 5, 3) := by decide +kernel
theorem d_X_isTaken_30 : decode b_X_isTaken 30 = .ok (.iconst 1, 1) := by decide +kernel
theorem d_X_isTaken_31 : decode b_X_isTaken 31 = .ok (.ireturn, 1) := by decide +kernel
theorem d_X_isTaken_32 : decode b_X_isTaken 32 = .ok (.iinc 3 1, 3) := by decide +kernel
theorem d_X_isTaken_35 : decode b_X_isTaken 35 = .ok (.goto (-33), 3) := by decide +kernel
theorem d_X_isTaken_38 : decode b_X_isTaken 38 = .ok (.iconst 0, 1) := by decide +kernel
theorem d_X_isTaken_39 : decode b_X_isTaken 39 = .ok (.ireturn, 1) := by decide +kernel
theorem d_X_add_0 : decode b_X_add 0 = .ok (.aload_n 0, 1) := by decide +kernel
theorem d_X_add_1 : decode b_X_add 1 = .ok (.getfield 9, 3) := by decide +kernel
theorem d_X_add_4 : decode b_X_add 4 = .ok (.istore 4, 2) := by decide +kernel
theorem d_X_add_6 : decode b_X_add 6 = .ok (.aload_n 0, 1) := by decide +kernel
theorem d_X_add_7 : decode b_X_add 7 = .ok (.getfield 15, 3) := by decide +kernel
theorem d_X_add_10 : decode b_X_add 10 = .ok (.iload 4, 2) := by decide +kernel
theorem d_X_add_12 : decode b_X_add 12 = .ok (.iload_n 1, 1) := by decide +kernel
theorem d_X_add_13 : decode b_X_add 13 = .ok (.iastore, 1) := by decide +kernel
theorem d_X_add_14 : decode b_X_add 14 = .ok (.aload_n 0, 1) := by decide +kernel
theorem d_X_add_15 : decode b_X_add 15 = .ok (.getfield 19, 3) := by decide +kernel
theorem d_X_add_18 : decode b_X_add 18 = .ok (.iload 4, 2) := by decide +kernel
theorem d_X_add_20 : decode b_X_add 20 = .ok (.iload_n 2, 1) := by decide +kernel
theorem d_X_add_21 : decode b_X_add 21 = .ok (.iastore, 1) := by decide +kernel
theorem d_X_add_22 : decode b_X_add 22 = .ok (.aload_n 0, 1) := by decide +kernel
theorem d_X_add_23 : decode b_X_add 23 = .ok (.getfield 22, 3) := by decide +kernel
theorem d_X_add_26 : decode b_X_add 26 = .ok (.iload 4, 2) := by decide +kernel
theorem d_X_add_28 : decode b_X_add 28 = .ok (.iload_n 3, 1) := by decide +kernel
theorem d_X_add_29 : decode b_X_add 29 = .ok (.iastore, 1) := by decide +kernel
theorem d_X_add_30 : decode b_X_add 30 = .ok (.aload_n 0, 1) := by decide +kernel
theorem d_X_add_31 : decode b_X_add 31 = .ok (.getfield 25, 3) := by decide +kernel
theorem d_X_add_34 : decode b_X_add 34 = .ok (.iload 4, 2) := by decide +kernel
theorem d_X_add_36 : decode b_X_add 36 = .ok (.iconst (-1), 1) := by decide +kernel
theorem d_X_add_37 : decode b_X_add 37 = .ok (.iastore, 1) := by decide +kernel
theorem d_X_add_38 : decode b_X_add 38 = .ok (.aload_n 0, 1) := by decide +kernel
theorem d_X_add_39 : decode b_X_add 39 = .ok (.getfield 28, 3) := by decide +kernel
theorem d_X_add_42 : decode b_X_add 42 = .ok (.iload 4, 2) := by decide +kernel
theorem d_X_add_44 : decode b_X_add 44 = .ok (.lconst 0, 1) := by decide +kernel
theorem d_X_add_45 : decode b_X_add 45 = .ok (.lastore, 1) := by decide +kernel
theorem d_X_add_46 : decode b_X_add 46 = .ok (.aload_n 0, 1) := by decide +kernel
theorem d_X_add_47 : decode b_X_add 47 = .ok (.getfield 32, 3) := by decide +kernel
theorem d_X_add_50 : decode b_X_add 50 = .ok (.iload 4, 2) := by decide +kernel
theorem d_X_add_52 : decode b_X_add 52 = .ok (.iconst (-1), 1) := by decide +kernel
theorem d_X_add_53 : decode b_X_add 53 = .ok (.iastore, 1) := by decide +kernel
theorem d_X_add_54 : decode b_X_add 54 = .ok (.aload_n 0, 1) := by decide +kernel
theorem d_X_add_55 : decode b_X_add 55 = .ok (.getfield 35, 3) := by decide +kernel
theorem d_X_add_58 : decode b_X_add 58 = .ok (.iload 4, 2) := by decide +kernel
theorem d_X_add_60 : decode b_X_add 60 = .ok (.iconst (-1), 1) := by decide +kernel
theorem d_X_add_61 : decode b_X_add 61 = .ok (.iastore, 1) := by decide +kernel
theorem d_X_add_62 : decode b_X_add 62 = .ok (.aload_n 0, 1) := by decide +kernel
theorem d_X_add_63 : decode b_X_add 63 = .ok (.getfield 38, 3) := by decide +kernel
theorem d_X_add_66 : decode b_X_add 66 = .ok (.iload 4, 2) := by decide +kernel
theorem d_X_add_68 : decode b_X_add 68 = .ok (.iconst (-1), 1) := by decide +kernel
theorem d_X_add_69 : decode b_X_add 69 = .ok (.iastore, 1) := by decide +kernel
theorem d_X_add_70 : decode b_X_add 70 = .ok (.aload_n 0, 1) := by decide +kernel
theorem d_X_add_71 : decode b_X_add 71 = .ok (.dup, 1) := by decide +kernel
theorem d_X_add_72 : decode b_X_add 72 = .ok (.getfield 9, 3) := by decide +kernel
theorem d_X_add_75 : decode b_X_add 75 = .ok (.iconst 1, 1) := by decide +kernel
theorem d_X_add_76 : decode b_X_add 76 = .ok (.iadd, 1) := by decide +kernel
theorem d_X_add_77 : decode b_X_add 77 = .ok (.putfield 9, 3) := by decide +kernel
theorem d_X_add_80 : decode b_X_add 80 = .ok (.iload 4, 2) := by decide +kernel
theorem d_X_add_82 : decode b_X_add 82 = .ok (.ireturn, 1) := by decide +kernel
theorem d_X_isOn_0 : decode b_X_isOn 0 = .ok (.aload_n 0, 1) := by decide +kernel
theorem d_X_isOn_1 : decode b_X_isOn 1 = .ok (.getfield 28, 3) := by decide +kernel
theorem d_X_isOn_4 : decode b_X_isOn 4 = .ok (.iload_n 1, 1) := by decide +kernel
theorem d_X_isOn_5 : decode b_X_isOn 5 = .ok (.laload, 1) := by decide +kernel
theorem d_X_isOn_6 : decode b_X_isOn 6 = .ok (.lconst 1, 1) := by decide +kernel
theorem d_X_isOn_7 : decode b_X_isOn 7 = .ok (.iload_n 2, 1) := by decide +kernel
theorem d_X_isOn_8 : decode b_X_isOn 8 = .ok (.lshl, 1) := by decide +kernel
theorem d_X_isOn_9 : decode b_X_isOn 9 = .ok (.land, 1) := by decide +kernel
theorem d_X_isOn_10 : decode b_X_isOn 10 = .ok (.lconst 0, 1) := by decide +kernel
theorem d_X_isOn_11 : decode b_X_isOn 11 = .ok (.lcmp, 1) := by decide +kernel
theorem d_X_isOn_12 : decode b_X_isOn 12 = .ok (.ifCond .eq 7, 3) := by decide +kernel
theorem d_X_isOn_15 : decode b_X_isOn 15 = .ok (.iconst 1, 1) := by decide +kernel
theorem d_X_isOn_16 : decode b_X_isOn 16 = .ok (.goto 4, 3) := by decide +kernel
theorem d_X_isOn_19 : decode b_X_isOn 19 = .ok (.iconst 0, 1) := by decide +kernel
theorem d_X_isOn_20 : decode b_X_isOn 20 = .ok (.ireturn, 1) := by decide +kernel
theorem d_X_putOn_0 : decode b_X_putOn 0 = .ok (.aload_n 0, 1) := by decide +kernel
theorem d_X_putOn_1 : decode b_X_putOn 1 = .ok (.getfield 28, 3) := by decide +kernel
theorem d_X_putOn_4 : decode b_X_putOn 4 = .ok (.iload_n 1, 1) := by decide +kernel
theorem d_X_putOn_5 : decode b_X_putOn 5 = .ok (.dup2, 1) := by decide +kernel
theorem d_X_putOn_6 : decode b_X_putOn 6 = .ok (.laload, 1) := by decide +kernel
theorem d_X_putOn_7 : decode b_X_putOn 7 = .ok (.lconst 1, 1) := by decide +kernel
theorem d_X_putOn_8 : decode b_X_putOn 8 = .ok (.iload_n 2, 1) := by decide +kernel
theorem d_X_putOn_9 : decode b_X_putOn 9 = .ok (.lshl, 1) := by decide +kernel
theorem d_X_putOn_10 : decode b_X_putOn 10 = .ok (.lor, 1) := by decide +kernel
theorem d_X_putOn_11 : decode b_X_putOn 11 = .ok (.lastore, 1) := by decide +kernel
theorem d_X_putOn_12 : decode b_X_putOn 12 = .ok (.return_, 1) := by decide +kernel
theorem d_X_billsOf_0 : decode b_X_billsOf 0 = .ok (.aload_n 0, 1) := by decide +kernel
theorem d_X_billsOf_1 : decode b_X_billsOf 1 = .ok (.getfield 28, 3) := by decide +kernel
theorem d_X_billsOf_4 : decode b_X_billsOf 4 = .ok (.iload_n 1, 1) := by decide +kernel
theorem d_X_billsOf_5 : decode b_X_billsOf 5 = .ok (.laload, 1) := by decide +kernel
theorem d_X_billsOf_6 : decode b_X_billsOf 6 = .ok (.invokestatic 41, 3) := by decide +kernel
theorem d_X_billsOf_9 : decode b_X_billsOf 9 = .ok (.ireturn, 1) := by decide +kernel
theorem d_X_billAt_0 : decode b_X_billAt 0 = .ok (.iconst 0, 1) := by decide +kernel
theorem d_X_billAt_1 : decode b_X_billAt 1 = .ok (.istore_n 3, 1) := by decide +kernel
theorem d_X_billAt_2 : decode b_X_billAt 2 = .ok (.iconst 0, 1) := by decide +kernel
theorem d_X_billAt_3 : decode b_X_billAt 3 = .ok (.istore 4, 2) := by decide +kernel
theorem d_X_billAt_5 : decode b_X_billAt 5 = .ok (.iload 4, 2) := by decide +kernel
theorem d_X_billAt_7 : decode b_X_billAt 7 = .ok (.bipush 60, 2) := by decide +kernel
theorem d_X_billAt_9 : decode b_X_billAt 9 = .ok (.if_icmp .ge 30, 3) := by decide +kernel
theorem d_X_billAt_12 : decode b_X_billAt 12 = .ok (.aload_n 0, 1) := by decide +kernel
theorem d_X_billAt_13 : decode b_X_billAt 13 = .ok (.iload_n 1, 1) := by decide +kernel
theorem d_X_billAt_14 : decode b_X_billAt 14 = .ok (.iload 4, 2) := by decide +kernel
theorem d_X_billAt_16 : decode b_X_billAt 16 = .ok (.invokevirtual 47, 3) := by decide +kernel
theorem d_X_billAt_19 : decode b_X_billAt 19 = .ok (.ifCond .eq 14, 3) := by decide +kernel
theorem d_X_billAt_22 : decode b_X_billAt 22 = .ok (.iload_n 3, 1) := by decide +kernel
theorem d_X_billAt_23 : decode b_X_billAt 23 = .ok (.iload_n 2, 1) := by decide +kernel
theorem d_X_billAt_24 : decode b_X_billAt 24 = .ok (.if_icmp .ne 6, 3) := by decide +kernel
theorem d_X_billAt_27 : decode b_X_billAt 27 = .ok (.iload 4, 2) := by decide +kernel
theorem d_X_billAt_29 : decode b_X_billAt 29 = .ok (.ireturn, 1) := by decide +kernel
theorem d_X_billAt_30 : decode b_X_billAt 30 = .ok (.iinc 3 1, 3) := by decide +kernel
theorem d_X_billAt_33 : decode b_X_billAt 33 = .ok (.iinc 4 1, 3) := by decide +kernel
theorem d_X_billAt_36 : decode b_X_billAt 36 = .ok (.goto (-31), 3) := by decide +kernel
theorem d_X_billAt_39 : decode b_X_billAt 39 = .ok (.iconst (-1), 1) := by decide +kernel
theorem d_X_billAt_40 : decode b_X_billAt 40 = .ok (.ireturn, 1) := by decide +kernel
theorem d_X_hasLanded_0 : decode b_X_hasLanded 0 = .ok (.aload_n 0, 1) := by decide +kernel
theorem d_X_hasLanded_1 : decode b_X_hasLanded 1 = .ok (.getfield 25, 3) := by decide +kernel
theorem d_X_hasLanded_4 : decode b_X_hasLanded 4 = .ok (.iload_n 1, 1) := by decide +kernel
theorem d_X_hasLanded_5 : decode b_X_hasLanded 5 = .ok (.iaload, 1) := by decide +kernel
theorem d_X_hasLanded_6 : decode b_X_hasLanded 6 = .ok (.iconst (-1), 1) := by decide +kernel
theorem d_X_hasLanded_7 : decode b_X_hasLanded 7 = .ok (.if_icmp .eq 7, 3) := by decide +kernel
theorem d_X_hasLanded_10 : decode b_X_hasLanded 10 = .ok (.iconst 1, 1) := by decide +kernel
theorem d_X_hasLanded_11 : decode b_X_hasLanded 11 = .ok (.goto 4, 3) := by decide +kernel
theorem d_X_hasLanded_14 : decode b_X_hasLanded 14 = .ok (.iconst 0, 1) := by decide +kernel
theorem d_X_hasLanded_15 : decode b_X_hasLanded 15 = .ok (.ireturn, 1) := by decide +kernel
theorem d_X_isOrdered_0 : decode b_X_isOrdered 0 = .ok (.aload_n 0, 1) := by decide +kernel
theorem d_X_isOrdered_1 : decode b_X_isOrdered 1 = .ok (.getfield 32, 3) := by decide +kernel
theorem d_X_isOrdered_4 : decode b_X_isOrdered 4 = .ok (.iload_n 1, 1) := by decide +kernel
theorem d_X_isOrdered_5 : decode b_X_isOrdered 5 = .ok (.iaload, 1) := by decide +kernel
theorem d_X_isOrdered_6 : decode b_X_isOrdered 6 = .ok (.iconst (-1), 1) := by decide +kernel
theorem d_X_isOrdered_7 : decode b_X_isOrdered 7 = .ok (.if_icmp .eq 7, 3) := by decide +kernel
theorem d_X_isOrdered_10 : decode b_X_isOrdered 10 = .ok (.iconst 1, 1) := by decide +kernel
theorem d_X_isOrdered_11 : decode b_X_isOrdered 11 = .ok (.goto 4, 3) := by decide +kernel
theorem d_X_isOrdered_14 : decode b_X_isOrdered 14 = .ok (.iconst 0, 1) := by decide +kernel
theorem d_X_isOrdered_15 : decode b_X_isOrdered 15 = .ok (.ireturn, 1) := by decide +kernel
theorem d_X_isWaiting_0 : decode b_X_isWaiting 0 = .ok (.aload_n 0, 1) := by decide +kernel
theorem d_X_isWaiting_1 : decode b_X_isWaiting 1 = .ok (.iload_n 1, 1) := by decide +kernel
theorem d_X_isWaiting_2 : decode b_X_isWaiting 2 = .ok (.invokevirtual 51, 3) := by decide +kernel
theorem d_X_isWaiting_5 : decode b_X_isWaiting 5 = .ok (.ifCond .eq 18, 3) := by decide +kernel
theorem d_X_isWaiting_8 : decode b_X_isWaiting 8 = .ok (.aload_n 0, 1) := by decide +kernel
theorem d_X_isWaiting_9 : decode b_X_isWaiting 9 = .ok (.getfield 28, 3) := by decide +kernel
theorem d_X_isWaiting_12 : decode b_X_isWaiting 12 = .ok (.iload_n 1, 1) := by decide +kernel
theorem d_X_isWaiting_13 : decode b_X_isWaiting 13 = .ok (.laload, 1) := by decide +kernel
theorem d_X_isWaiting_14 : decode b_X_isWaiting 14 = .ok (.lconst 0, 1) := by decide +kernel
theorem d_X_isWaiting_15 : decode b_X_isWaiting 15 = .ok (.lcmp, 1) := by decide +kernel
theorem d_X_isWaiting_16 : decode b_X_isWaiting 16 = .ok (.ifCond .ne 7, 3) := by decide +kernel
theorem d_X_isWaiting_19 : decode b_X_isWaiting 19 = .ok (.iconst 1, 1) := by decide +kernel
theorem d_X_isWaiting_20 : decode b_X_isWaiting 20 = .ok (.goto 4, 3) := by decide +kernel
theorem d_X_isWaiting_23 : decode b_X_isWaiting 23 = .ok (.iconst 0, 1) := by decide +kernel
theorem d_X_isWaiting_24 : decode b_X_isWaiting 24 = .ok (.ireturn, 1) := by decide +kernel
theorem d_X_boxesOn_0 : decode b_X_boxesOn 0 = .ok (.iconst 0, 1) := by decide +kernel
theorem d_X_boxesOn_1 : decode b_X_boxesOn 1 = .ok (.istore_n 2, 1) := by decide +kernel
theorem d_X_boxesOn_2 : decode b_X_boxesOn 2 = .ok (.iconst 0, 1) := by decide +kernel
theorem d_X_boxesOn_3 : decode b_X_boxesOn 3 = .ok (.istore_n 3, 1) := by decide +kernel
theorem d_X_boxesOn_4 : decode b_X_boxesOn 4 = .ok (.iload_n 3, 1) := by decide +kernel
theorem d_X_boxesOn_5 : decode b_X_boxesOn 5 = .ok (.aload_n 0, 1) := by decide +kernel
theorem d_X_boxesOn_6 : decode b_X_boxesOn 6 = .ok (.getfield 9, 3) := by decide +kernel
theorem d_X_boxesOn_9 : decode b_X_boxesOn 9 = .ok (.if_icmp .ge 21, 3) := by decide +kernel
theorem d_X_boxesOn_12 : decode b_X_boxesOn 12 = .ok (.aload_n 0, 1) := by decide +kernel
theorem d_X_boxesOn_13 : decode b_X_boxesOn 13 = .ok (.iload_n 3, 1) := by decide +kernel
theorem d_X_boxesOn_14 : decode b_X_boxesOn 14 = .ok (.iload_n 1, 1) := by decide +kernel
theorem d_X_boxesOn_15 : decode b_X_boxesOn 15 = .ok (.invokevirtual 47, 3) := by decide +kernel
theorem d_X_boxesOn_18 : decode b_X_boxesOn 18 = .ok (.ifCond .eq 6, 3) := by decide +kernel
theorem d_X_boxesOn_21 : decode b_X_boxesOn 21 = .ok (.iinc 2 1, 3) := by decide +kernel
theorem d_X_boxesOn_24 : decode b_X_boxesOn 24 = .ok (.iinc 3 1, 3) := by decide +kernel
theorem d_X_boxesOn_27 : decode b_X_boxesOn 27 = .ok (.goto (-23), 3) := by decide +kernel
theorem d_X_boxesOn_30 : decode b_X_boxesOn 30 = .ok (.iload_n 2, 1) := by decide +kernel
theorem d_X_boxesOn_31 : decode b_X_boxesOn 31 = .ok (.ireturn, 1) := by decide +kernel
theorem d_X_landedOf_0 : decode b_X_landedOf 0 = .ok (.iconst 0, 1) := by decide +kernel
theorem d_X_landedOf_1 : decode b_X_landedOf 1 = .ok (.istore_n 2, 1) := by decide +kernel
theorem d_X_landedOf_2 : decode b_X_landedOf 2 = .ok (.iconst 0, 1) := by decide +kernel
theorem d_X_landedOf_3 : decode b_X_landedOf 3 = .ok (.istore_n 3, 1) := by decide +kernel
theorem d_X_landedOf_4 : decode b_X_landedOf 4 = .ok (.iload_n 3, 1) := by decide +kernel
theorem d_X_landedOf_5 : decode b_X_landedOf 5 = .ok (.aload_n 0, 1) := by decide +kernel
theorem d_X_landedOf_6 : decode b_X_landedOf 6 = .ok (.getfield 9, 3) := by decide +kernel
theorem d_X_landedOf_9 : decode b_X_landedOf 9 = .ok (.if_icmp .ge 35, 3) := by decide +kernel
theorem d_X_landedOf_12 : decode b_X_landedOf 12 = .ok (.aload_n 0, 1) := by decide +kernel
theorem d_X_landedOf_13 : decode b_X_landedOf 13 = .ok (.iload_n 3, 1) := by decide +kernel
theorem d_X_landedOf_14 : decode b_X_landedOf 14 = .ok (.iload_n 1, 1) := by decide +kernel
theorem d_X_landedOf_15 : decode b_X_landedOf 15 = .ok (.invokevirtual 47, 3) := by decide +kernel
theorem d_X_landedOf_18 : decode b_X_landedOf 18 = .ok (.ifCond .eq 20, 3) := by decide +kernel
theorem d_X_landedOf_21 : decode b_X_landedOf 21 = .ok (.aload_n 0, 1) := by decide +kernel
theorem d_X_landedOf_22 : decode b_X_landedOf 22 = .ok (.iload_n 3, 1) := by decide +kernel
theorem d_X_landedOf_23 : decode b_X_landedOf 23 = .ok (.invokevirtual 51, 3) := by decide +kernel
theorem d_X_landedOf_26 : decode b_X_landedOf 26 = .ok (.ifCond .eq 12, 3) := by decide +kernel
theorem d_X_landedOf_29 : decode b_X_landedOf 29 = .ok (.iload_n 2, 1) := by decide +kernel
theorem d_X_landedOf_30 : decode b_X_landedOf 30 = .ok (.aload_n 0, 1) := by decide +kernel
theorem d_X_landedOf_31 : decode b_X_landedOf 31 = .ok (.iload_n 3, 1) := by decide +kernel
theorem d_X_landedOf_32 : decode b_X_landedOf 32 = .ok (.iload_n 1, 1) := by decide +kernel
theorem d_X_landedOf_33 : decode b_X_landedOf 33 = .ok (.invokevirtual 55, 3) := by decide +kernel
theorem d_X_landedOf_36 : decode b_X_landedOf 36 = .ok (.iadd, 1) := by decide +kernel
theorem d_X_landedOf_37 : decode b_X_landedOf 37 = .ok (.istore_n 2, 1) := by decide +kernel
theorem d_X_landedOf_38 : decode b_X_landedOf 38 = .ok (.iinc 3 1, 3) := by decide +kernel
theorem d_X_landedOf_41 : decode b_X_landedOf 41 = .ok (.goto (-37), 3) := by decide +kernel
theorem d_X_landedOf_44 : decode b_X_landedOf 44 = .ok (.iload_n 2, 1) := by decide +kernel
theorem d_X_landedOf_45 : decode b_X_landedOf 45 = .ok (.ireturn, 1) := by decide +kernel
theorem d_X_share_0 : decode b_X_share 0 = .ok (.aload_n 0, 1) := by decide +kernel
theorem d_X_share_1 : decode b_X_share 1 = .ok (.iload_n 1, 1) := by decide +kernel
theorem d_X_share_2 : decode b_X_share 2 = .ok (.invokevirtual 59, 3) := by decide +kernel
theorem d_X_share_5 : decode b_X_share 5 = .ok (.istore_n 3, 1) := by decide +kernel
theorem d_X_share_6 : decode b_X_share 6 = .ok (.iload_n 3, 1) := by decide +kernel
theorem d_X_share_7 : decode b_X_share 7 = .ok (.ifCond .ne 5, 3) := by decide +kernel
theorem d_X_share_10 : decode b_X_share 10 = .ok (.iconst 0, 1) := by decide +kernel
theorem d_X_share_11 : decode b_X_share 11 = .ok (.ireturn, 1) := by decide +kernel
theorem d_X_share_12 : decode b_X_share 12 = .ok (.aload_n 0, 1) := by decide +kernel
theorem d_X_share_13 : decode b_X_share 13 = .ok (.getfield 28, 3) := by decide +kernel
theorem d_X_share_16 : decode b_X_share 16 = .ok (.iload_n 1, 1) := by decide +kernel
theorem d_X_share_17 : decode b_X_share 17 = .ok (.laload, 1) := by decide +kernel
theorem d_X_share_18 : decode b_X_share 18 = .ok (.lconst 1, 1) := by decide +kernel
theorem d_X_share_19 : decode b_X_share 19 = .ok (.iload_n 2, 1) := by decide +kernel
theorem d_X_share_20 : decode b_X_share 20 = .ok (.lshl, 1) := by decide +kernel
theorem d_X_share_21 : decode b_X_share 21 = .ok (.lconst 1, 1) := by decide +kernel
theorem d_X_share_22 : decode b_X_share 22 = .ok (.lsub, 1) := by decide +kernel
theorem d_X_share_23 : decode b_X_share 23 = .ok (.land, 1) := by decide +kernel
theorem d_X_share_24 : decode b_X_share 24 = .ok (.invokestatic 41, 3) := by decide +kernel
theorem d_X_share_27 : decode b_X_share 27 = .ok (.istore 4, 2) := by decide +kernel
theorem d_X_share_29 : decode b_X_share 29 = .ok (.aload_n 0, 1) := by decide +kernel
theorem d_X_share_30 : decode b_X_share 30 = .ok (.getfield 25, 3) := by decide +kernel
theorem d_X_share_33 : decode b_X_share 33 = .ok (.iload_n 1, 1) := by decide +kernel
theorem d_X_share_34 : decode b_X_share 34 = .ok (.iaload, 1) := by decide +kernel
theorem d_X_share_35 : decode b_X_share 35 = .ok (.iload_n 3, 1) := by decide +kernel
theorem d_X_share_36 : decode b_X_share 36 = .ok (.idiv, 1) := by decide +kernel
theorem d_X_share_37 : decode b_X_share 37 = .ok (.iload 4, 2) := by decide +kernel
theorem d_X_share_39 : decode b_X_share 39 = .ok (.aload_n 0, 1) := by decide +kernel
theorem d_X_share_40 : decode b_X_share 40 = .ok (.getfield 25, 3) := by decide +kernel
theorem d_X_share_43 : decode b_X_share 43 = .ok (.iload_n 1, 1) := by decide +kernel
theorem d_X_share_44 : decode b_X_share 44 = .ok (.iaload, 1) := by decide +kernel
theorem d_X_share_45 : decode b_X_share 45 = .ok (.iload_n 3, 1) := by decide +kernel
theorem d_X_share_46 : decode b_X_share 46 = .ok (.irem, 1) := by decide +kernel
theorem d_X_share_47 : decode b_X_share 47 = .ok (.if_icmp .ge 7, 3) := by decide +kernel
theorem d_X_share_50 : decode b_X_share 50 = .ok (.iconst 1, 1) := by decide +kernel
theorem d_X_share_51 : decode b_X_share 51 = .ok (.goto 4, 3) := by decide +kernel
theorem d_X_share_54 : decode b_X_share 54 = .ok (.iconst 0, 1) := by decide +kernel
theorem d_X_share_55 : decode b_X_share 55 = .ok (.iadd, 1) := by decide +kernel
theorem d_X_share_56 : decode b_X_share 56 = .ok (.ireturn, 1) := by decide +kernel
theorem d_X_first_0 : decode b_X_first 0 = .ok (.iload_n 1, 1) := by decide +kernel
theorem d_X_first_1 : decode b_X_first 1 = .ok (.istore_n 2, 1) := by decide +kernel
theorem d_X_first_2 : decode b_X_first 2 = .ok (.iconst 0, 1) := by decide +kernel
theorem d_X_first_3 : decode b_X_first 3 = .ok (.istore_n 3, 1) := by decide +kernel
theorem d_X_first_4 : decode b_X_first 4 = .ok (.iload_n 3, 1) := by decide +kernel
theorem d_X_first_5 : decode b_X_first 5 = .ok (.bipush 60, 2) := by decide +kernel
theorem d_X_first_7 : decode b_X_first 7 = .ok (.if_icmp .ge 29, 3) := by decide +kernel
theorem d_X_first_10 : decode b_X_first 10 = .ok (.aload_n 0, 1) := by decide +kernel
theorem d_X_first_11 : decode b_X_first 11 = .ok (.aload_n 0, 1) := by decide +kernel
theorem d_X_first_12 : decode b_X_first 12 = .ok (.getfield 38, 3) := by decide +kernel
theorem d_X_first_15 : decode b_X_first 15 = .ok (.iload_n 2, 1) := by decide +kernel
theorem d_X_first_16 : decode b_X_first 16 = .ok (.iaload, 1) := by decide +kernel
theorem d_X_first_17 : decode b_X_first 17 = .ok (.invokevirtual 63, 3) := by decide +kernel
theorem d_X_first_20 : decode b_X_first 20 = .ok (.ifCond .eq 16, 3) := by decide +kernel
theorem d_X_first_23 : decode b_X_first 23 = .ok (.aload_n 0, 1) := by decide +kernel
theorem d_X_first_24 : decode b_X_first 24 = .ok (.getfield 38, 3) := by decide +kernel
theorem d_X_first_27 : decode b_X_first 27 = .ok (.iload_n 2, 1) := by decide +kernel
theorem d_X_first_28 : decode b_X_first 28 = .ok (.iaload, 1) := by decide +kernel
theorem d_X_first_29 : decode b_X_first 29 = .ok (.istore_n 2, 1) := by decide +kernel
theorem d_X_first_30 : decode b_X_first 30 = .ok (.iinc 3 1, 3) := by decide +kernel
theorem d_X_first_33 : decode b_X_first 33 = .ok (.goto (-29), 3) := by decide +kernel
theorem d_X_first_36 : decode b_X_first 36 = .ok (.iload_n 2, 1) := by decide +kernel
theorem d_X_first_37 : decode b_X_first 37 = .ok (.ireturn, 1) := by decide +kernel
theorem d_X_weightSoFar_0 : decode b_X_weightSoFar 0 = .ok (.iload_n 1, 1) := by decide +kernel
theorem d_X_weightSoFar_1 : decode b_X_weightSoFar 1 = .ok (.istore_n 2, 1) := by decide +kernel
theorem d_X_weightSoFar_2 : decode b_X_weightSoFar 2 = .ok (.aload_n 0, 1) := by decide +kernel
theorem d_X_weightSoFar_3 : decode b_X_weightSoFar 3 = .ok (.getfield 22, 3) := by decide +kernel
theorem d_X_weightSoFar_6 : decode b_X_weightSoFar 6 = .ok (.iload_n 1, 1) := by decide +kernel
theorem d_X_weightSoFar_7 : decode b_X_weightSoFar 7 = .ok (.iaload, 1) := by decide +kernel
theorem d_X_weightSoFar_8 : decode b_X_weightSoFar 8 = .ok (.istore_n 3, 1) := by decide +kernel
theorem d_X_weightSoFar_9 : decode b_X_weightSoFar 9 = .ok (.iconst 0, 1) := by decide +kernel
theorem d_X_weightSoFar_10 : decode b_X_weightSoFar 10 = .ok (.istore 4, 2) := by decide +kernel
theorem d_X_weightSoFar_12 : decode b_X_weightSoFar 12 = .ok (.iload 4, 2) := by decide +kernel
theorem d_X_weightSoFar_14 : decode b_X_weightSoFar 14 = .ok (.bipush 60, 2) := by decide +kernel
theorem d_X_weightSoFar_16 : decode b_X_weightSoFar 16 = .ok (.if_icmp .ge 38, 3) := by decide +kernel
theorem d_X_weightSoFar_19 : decode b_X_weightSoFar 19 = .ok (.aload_n 0, 1) := by decide +kernel
theorem d_X_weightSoFar_20 : decode b_X_weightSoFar 20 = .ok (.aload_n 0, 1) := by decide +kernel
theorem d_X_weightSoFar_21 : decode b_X_weightSoFar 21 = .ok (.getfield 38, 3) := by decide +kernel
theorem d_X_weightSoFar_24 : decode b_X_weightSoFar 24 = .ok (.iload_n 2, 1) := by decide +kernel
theorem d_X_weightSoFar_25 : decode b_X_weightSoFar 25 = .ok (.iaload, 1) := by decide +kernel
theorem d_X_weightSoFar_26 : decode b_X_weightSoFar 26 = .ok (.invokevirtual 63, 3) := by decide +kernel
theorem d_X_weightSoFar_29 : decode b_X_weightSoFar 29 = .ok (.ifCond .eq 25, 3) := by decide +kernel
theorem d_X_weightSoFar_32 : decode b_X_weightSoFar 32 = .ok (.aload_n 0, 1) := by decide +kernel
theorem d_X_weightSoFar_33 : decode b_X_weightSoFar 33 = .ok (.getfield 38, 3) := by decide +kernel
theorem d_X_weightSoFar_36 : decode b_X_weightSoFar 36 = .ok (.iload_n 2, 1) := by decide +kernel
theorem d_X_weightSoFar_37 : decode b_X_weightSoFar 37 = .ok (.iaload, 1) := by decide +kernel
theorem d_X_weightSoFar_38 : decode b_X_weightSoFar 38 = .ok (.istore_n 2, 1) := by decide +kernel
theorem d_X_weightSoFar_39 : decode b_X_weightSoFar 39 = .ok (.iload_n 3, 1) := by decide +kernel
theorem d_X_weightSoFar_40 : decode b_X_weightSoFar 40 = .ok (.aload_n 0, 1) := by decide +kernel
theorem d_X_weightSoFar_41 : decode b_X_weightSoFar 41 = .ok (.getfield 22, 3) := by decide +kernel
theorem d_X_weightSoFar_44 : decode b_X_weightSoFar 44 = .ok (.iload_n 2, 1) := by decide +kernel
theorem d_X_weightSoFar_45 : decode b_X_weightSoFar 45 = .ok (.iaload, 1) := by decide +kernel
theorem d_X_weightSoFar_46 : decode b_X_weightSoFar 46 = .ok (.iadd, 1) := by decide +kernel
theorem d_X_weightSoFar_47 : decode b_X_weightSoFar 47 = .ok (.istore_n 3, 1) := by decide +kernel
theorem d_X_weightSoFar_48 : decode b_X_weightSoFar 48 = .ok (.iinc 4 1, 3) := by decide +kernel
theorem d_X_weightSoFar_51 : decode b_X_weightSoFar 51 = .ok (.goto (-39), 3) := by decide +kernel
theorem d_X_weightSoFar_54 : decode b_X_weightSoFar 54 = .ok (.iload_n 3, 1) := by decide +kernel
theorem d_X_weightSoFar_55 : decode b_X_weightSoFar 55 = .ok (.ireturn, 1) := by decide +kernel
theorem d_X_landedOnes_0 : decode b_X_landedOnes 0 = .ok (.iconst 0, 1) := by decide +kernel
theorem d_X_landedOnes_1 : decode b_X_landedOnes 1 = .ok (.istore_n 1, 1) := by decide +kernel
theorem d_X_landedOnes_2 : decode b_X_landedOnes 2 = .ok (.iconst 0, 1) := by decide +kernel
theorem d_X_landedOnes_3 : decode b_X_landedOnes 3 = .ok (.istore_n 2, 1) := by decide +kernel
theorem d_X_landedOnes_4 : decode b_X_landedOnes 4 = .ok (.iload_n 2, 1) := by decide +kernel
theorem d_X_landedOnes_5 : decode b_X_landedOnes 5 = .ok (.aload_n 0, 1) := by decide +kernel
theorem d_X_landedOnes_6 : decode b_X_landedOnes 6 = .ok (.getfield 9, 3) := by decide +kernel
theorem d_X_landedOnes_9 : decode b_X_landedOnes 9 = .ok (.if_icmp .ge 20, 3) := by decide +kernel
theorem d_X_landedOnes_12 : decode b_X_landedOnes 12 = .ok (.aload_n 0, 1) := by decide +kernel
theorem d_X_landedOnes_13 : decode b_X_landedOnes 13 = .ok (.iload_n 2, 1) := by decide +kernel
theorem d_X_landedOnes_14 : decode b_X_landedOnes 14 = .ok (.invokevirtual 51, 3) := by decide +kernel
theorem d_X_landedOnes_17 : decode b_X_landedOnes 17 = .ok (.ifCond .eq 6, 3) := by decide +kernel
theorem d_X_landedOnes_20 : decode b_X_landedOnes 20 = .ok (.iinc 1 1, 3) := by decide +kernel
theorem d_X_landedOnes_23 : decode b_X_landedOnes 23 = .ok (.iinc 2 1, 3) := by decide +kernel
theorem d_X_landedOnes_26 : decode b_X_landedOnes 26 = .ok (.goto (-22), 3) := by decide +kernel
theorem d_X_landedOnes_29 : decode b_X_landedOnes 29 = .ok (.iload_n 1, 1) := by decide +kernel
theorem d_X_landedOnes_30 : decode b_X_landedOnes 30 = .ok (.ireturn, 1) := by decide +kernel
theorem d_X_orderedOnes_0 : decode b_X_orderedOnes 0 = .ok (.iconst 0, 1) := by decide +kernel
theorem d_X_orderedOnes_1 : decode b_X_orderedOnes 1 = .ok (.istore_n 1, 1) := by decide +kernel
theorem d_X_orderedOnes_2 : decode b_X_orderedOnes 2 = .ok (.iconst 0, 1) := by decide +kernel
theorem d_X_orderedOnes_3 : decode b_X_orderedOnes 3 = .ok (.istore_n 2, 1) := by decide +kernel
theorem d_X_orderedOnes_4 : decode b_X_orderedOnes 4 = .ok (.iload_n 2, 1) := by decide +kernel
theorem d_X_orderedOnes_5 : decode b_X_orderedOnes 5 = .ok (.aload_n 0, 1) := by decide +kernel
theorem d_X_orderedOnes_6 : decode b_X_orderedOnes 6 = .ok (.getfield 9, 3) := by decide +kernel
theorem d_X_orderedOnes_9 : decode b_X_orderedOnes 9 = .ok (.if_icmp .ge 20, 3) := by decide +kernel
theorem d_X_orderedOnes_12 : decode b_X_orderedOnes 12 = .ok (.aload_n 0, 1) := by decide +kernel
theorem d_X_orderedOnes_13 : decode b_X_orderedOnes 13 = .ok (.iload_n 2, 1) := by decide +kernel
theorem d_X_orderedOnes_14 : decode b_X_orderedOnes 14 = .ok (.invokevirtual 66, 3) := by decide +kernel
theorem d_X_orderedOnes_17 : decode b_X_orderedOnes 17 = .ok (.ifCond .eq 6, 3) := by decide +kernel
theorem d_X_orderedOnes_20 : decode b_X_orderedOnes 20 = .ok (.iinc 1 1, 3) := by decide +kernel
theorem d_X_orderedOnes_23 : decode b_X_orderedOnes 23 = .ok (.iinc 2 1, 3) := by decide +kernel
theorem d_X_orderedOnes_26 : decode b_X_orderedOnes 26 = .ok (.goto (-22), 3) := by decide +kernel
theorem d_X_orderedOnes_29 : decode b_X_orderedOnes 29 = .ok (.iload_n 1, 1) := by decide +kernel
theorem d_X_orderedOnes_30 : decode b_X_orderedOnes 30 = .ok (.ireturn, 1) := by decide +kernel
theorem d_X_waitingOnes_0 : decode b_X_waitingOnes 0 = .ok (.iconst 0, 1) := by decide +kernel
theorem d_X_waitingOnes_1 : decode b_X_waitingOnes 1 = .ok (.istore_n 1, 1) := by decide +kernel
theorem d_X_waitingOnes_2 : decode b_X_waitingOnes 2 = .ok (.iconst 0, 1) := by decide +kernel
theorem d_X_waitingOnes_3 : decode b_X_waitingOnes 3 = .ok (.istore_n 2, 1) := by decide +kernel
theorem d_X_waitingOnes_4 : decode b_X_waitingOnes 4 = .ok (.iload_n 2, 1) := by decide +kernel
theorem d_X_waitingOnes_5 : decode b_X_waitingOnes 5 = .ok (.aload_n 0, 1) := by decide +kernel
theorem d_X_waitingOnes_6 : decode b_X_waitingOnes 6 = .ok (.getfield 9, 3) := by decide +kernel
theorem d_X_waitingOnes_9 : decode b_X_waitingOnes 9 = .ok (.if_icmp .ge 20, 3) := by decide +kernel
theorem d_X_waitingOnes_12 : decode b_X_waitingOnes 12 = .ok (.aload_n 0, 1) := by decide +kernel
theorem d_X_waitingOnes_13 : decode b_X_waitingOnes 13 = .ok (.iload_n 2, 1) := by decide +kernel
theorem d_X_waitingOnes_14 : decode b_X_waitingOnes 14 = .ok (.invokevirtual 69, 3) := by decide +kernel
theorem d_X_waitingOnes_17 : decode b_X_waitingOnes 17 = .ok (.ifCond .eq 6, 3) := by decide +kernel
theorem d_X_waitingOnes_20 : decode b_X_waitingOnes 20 = .ok (.iinc 1 1, 3) := by decide +kernel
theorem d_X_waitingOnes_23 : decode b_X_waitingOnes 23 = .ok (.iinc 2 1, 3) := by decide +kernel
theorem d_X_waitingOnes_26 : decode b_X_waitingOnes 26 = .ok (.goto (-22), 3) := by decide +kernel
theorem d_X_waitingOnes_29 : decode b_X_waitingOnes 29 = .ok (.iload_n 1, 1) := by decide +kernel
theorem d_X_waitingOnes_30 : decode b_X_waitingOnes 30 = .ok (.ireturn, 1) := by decide +kernel
theorem d_J_bitCount_0 : decode b_J_bitCount 0 = .ok (.lload_n 0, 1) := by decide +kernel
theorem d_J_bitCount_1 : decode b_J_bitCount 1 = .ok (.lload_n 0, 1) := by decide +kernel
theorem d_J_bitCount_2 : decode b_J_bitCount 2 = .ok (.iconst 1, 1) := by decide +kernel
theorem d_J_bitCount_3 : decode b_J_bitCount 3 = .ok (.lushr, 1) := by decide +kernel
theorem d_J_bitCount_4 : decode b_J_bitCount 4 = .ok (.ldc2_w 314, 3) := by decide +kernel
theorem d_J_bitCount_7 : decode b_J_bitCount 7 = .ok (.land, 1) := by decide +kernel
theorem d_J_bitCount_8 : decode b_J_bitCount 8 = .ok (.lsub, 1) := by decide +kernel
theorem d_J_bitCount_9 : decode b_J_bitCount 9 = .ok (.lstore_n 0, 1) := by decide +kernel
theorem d_J_bitCount_10 : decode b_J_bitCount 10 = .ok (.lload_n 0, 1) := by decide +kernel
theorem d_J_bitCount_11 : decode b_J_bitCount 11 = .ok (.ldc2_w 316, 3) := by decide +kernel
theorem d_J_bitCount_14 : decode b_J_bitCount 14 = .ok (.land, 1) := by decide +kernel
theorem d_J_bitCount_15 : decode b_J_bitCount 15 = .ok (.lload_n 0, 1) := by decide +kernel
theorem d_J_bitCount_16 : decode b_J_bitCount 16 = .ok (.iconst 2, 1) := by decide +kernel
theorem d_J_bitCount_17 : decode b_J_bitCount 17 = .ok (.lushr, 1) := by decide +kernel
theorem d_J_bitCount_18 : decode b_J_bitCount 18 = .ok (.ldc2_w 316, 3) := by decide +kernel
theorem d_J_bitCount_21 : decode b_J_bitCount 21 = .ok (.land, 1) := by decide +kernel
theorem d_J_bitCount_22 : decode b_J_bitCount 22 = .ok (.ladd, 1) := by decide +kernel
theorem d_J_bitCount_23 : decode b_J_bitCount 23 = .ok (.lstore_n 0, 1) := by decide +kernel
theorem d_J_bitCount_24 : decode b_J_bitCount 24 = .ok (.lload_n 0, 1) := by decide +kernel
theorem d_J_bitCount_25 : decode b_J_bitCount 25 = .ok (.lload_n 0, 1) := by decide +kernel
theorem d_J_bitCount_26 : decode b_J_bitCount 26 = .ok (.iconst 4, 1) := by decide +kernel
theorem d_J_bitCount_27 : decode b_J_bitCount 27 = .ok (.lushr, 1) := by decide +kernel
theorem d_J_bitCount_28 : decode b_J_bitCount 28 = .ok (.ladd, 1) := by decide +kernel
theorem d_J_bitCount_29 : decode b_J_bitCount 29 = .ok (.ldc2_w 318, 3) := by decide +kernel
theorem d_J_bitCount_32 : decode b_J_bitCount 32 = .ok (.land, 1) := by decide +kernel
theorem d_J_bitCount_33 : decode b_J_bitCount 33 = .ok (.lstore_n 0, 1) := by decide +kernel
theorem d_J_bitCount_34 : decode b_J_bitCount 34 = .ok (.lload_n 0, 1) := by decide +kernel
theorem d_J_bitCount_35 : decode b_J_bitCount 35 = .ok (.lload_n 0, 1) := by decide +kernel
theorem d_J_bitCount_36 : decode b_J_bitCount 36 = .ok (.bipush 8, 2) := by decide +kernel
theorem d_J_bitCount_38 : decode b_J_bitCount 38 = .ok (.lushr, 1) := by decide +kernel
theorem d_J_bitCount_39 : decode b_J_bitCount 39 = .ok (.ladd, 1) := by decide +kernel
theorem d_J_bitCount_40 : decode b_J_bitCount 40 = .ok (.lstore_n 0, 1) := by decide +kernel
theorem d_J_bitCount_41 : decode b_J_bitCount 41 = .ok (.lload_n 0, 1) := by decide +kernel
theorem d_J_bitCount_42 : decode b_J_bitCount 42 = .ok (.lload_n 0, 1) := by decide +kernel
theorem d_J_bitCount_43 : decode b_J_bitCount 43 = .ok (.bipush 16, 2) := by decide +kernel
theorem d_J_bitCount_45 : decode b_J_bitCount 45 = .ok (.lushr, 1) := by decide +kernel
theorem d_J_bitCount_46 : decode b_J_bitCount 46 = .ok (.ladd, 1) := by decide +kernel
theorem d_J_bitCount_47 : decode b_J_bitCount 47 = .ok (.lstore_n 0, 1) := by decide +kernel
theorem d_J_bitCount_48 : decode b_J_bitCount 48 = .ok (.lload_n 0, 1) := by decide +kernel
theorem d_J_bitCount_49 : decode b_J_bitCount 49 = .ok (.lload_n 0, 1) := by decide +kernel
theorem d_J_bitCount_50 : decode b_J_bitCount 50 = .ok (.bipush 32, 2) := by decide +kernel
theorem d_J_bitCount_52 : decode b_J_bitCount 52 = .ok (.lushr, 1) := by decide +kernel
theorem d_J_bitCount_53 : decode b_J_bitCount 53 = .ok (.ladd, 1) := by decide +kernel
theorem d_J_bitCount_54 : decode b_J_bitCount 54 = .ok (.lstore_n 0, 1) := by decide +kernel
theorem d_J_bitCount_55 : decode b_J_bitCount 55 = .ok (.lload_n 0, 1) := by decide +kernel
theorem d_J_bitCount_56 : decode b_J_bitCount 56 = .ok (.l2i, 1) := by decide +kernel
theorem d_J_bitCount_57 : decode b_J_bitCount 57 = .ok (.bipush 127, 2) := by decide +kernel
theorem d_J_bitCount_59 : decode b_J_bitCount 59 = .ok (.iand, 1) := by decide +kernel
theorem d_J_bitCount_60 : decode b_J_bitCount 60 = .ok (.ireturn, 1) := by decide +kernel
end
section
section TL
variable {p : Program} {l : Launch} {e : Env} {R : Room} {s : State} {m : MethodId} {args : Array Value} {below : List Frame} {meth : Method} {c : Code} {H : Heap} {locs : List Loc} {cells slots : Nat} {Q : State → Prop}
variable {cc : ByteArray} {pc : Nat} {ls : Array Slot} {rest st0 : List Value} {D : va_G} {cl : List vw_C} {A : Nat → Prop} {a : Nat} {tys : List (ClassId × FieldType)} {ws : va_W} {H0 : Heap}
theorem q_inc (i : Nat) : nI i + Int32.ofInt 1 = nI (i + 1) := nI_1 i
theorem q_iald (hexec : p.tables.exec = Jvm.exec) (hb : c.code = cc) (hK : va_K D cl tys s) (hP : va_P D cl ws H) (q0 t0 : Nat) {cA : ClassId} {n : Nat} {f : Nat → Int32} (ha : ws[q0]? = some (a, .inl (cA, n, .inl f))) (ht : tys[t0]? = some (cA, .int)) (k : Nat) (hk : k < n) (hn : n < 2 ^ 31) (hdg : decode cc pc = .ok (.iaload, 1))
    (kk : W p l e R s m args below meth c H locs cells slots Q (F0 m (pc + 1) ls (.int (f k) :: rest))) : W p l e R s m args below meth c H locs cells slots Q (F0 m pc ls (.int (nI k) :: .ref a :: rest)) := by
  refine va_iald hexec hb hK hP q0 t0 ha ht (vp_in_nI hk hn) hdg ?_
  rw [nI_clamp (Nat.lt_trans hk hn)]; exact kk
theorem q_lald (hexec : p.tables.exec = Jvm.exec) (hb : c.code = cc) (hK : va_K D cl tys s) (hP : va_P D cl ws H) (q0 t0 : Nat) {cA : ClassId} {n : Nat} {f : Nat → Int64} (ha : ws[q0]? = some (a, .inl (cA, n, .inr (.inl f)))) (ht : tys[t0]? = some (cA, .long)) (k : Nat) (hk : k < n) (hn : n < 2 ^ 31) (hdg : decode cc pc = .ok (.laload, 1))
    (kk : W p l e R s m args below meth c H locs cells slots Q (F0 m (pc + 1) ls (.long (f k) :: rest))) : W p l e R s m args below meth c H locs cells slots Q (F0 m pc ls (.int (nI k) :: .ref a :: rest)) := by
  refine va_lald hexec hb hK hP q0 t0 ha ht (vp_in_nI hk hn) hdg ?_
  rw [nI_clamp (Nat.lt_trans hk hn)]; exact kk
theorem q_iast (hexec : p.tables.exec = Jvm.exec) (hb : c.code = cc) (hK : va_K D cl tys s) (hP : va_P D cl ws H) (hD : va_D A ws) (hS : va_S A H0 H locs) (q0 t0 : Nat) {cA : ClassId} {n : Nat} {f : Nat → Int32} (ha : ws[q0]? = some (a, .inl (cA, n, .inl f))) (ht : tys[t0]? = some (cA, .int)) (k : Nat) {x : Int32} (hk : k < n) (hn : n < 2 ^ 31) (hdg : decode cc pc = .ok (.iastore, 1))
    (kk : ∀ (H1 : Heap) (locs1 : List Loc), va_P D cl (ws.set q0 (a, .inl (cA, n, .inl (upd f k x)))) H1 → va_D A (ws.set q0 (a, .inl (cA, n, .inl (upd f k x)))) → va_S A H0 H1 locs1 → W p l e R s m args below meth c H1 locs1 cells slots Q (F0 m (pc + 1) ls rest)) : W p l e R s m args below meth c H locs cells slots Q (F0 m pc ls (.int x :: .int (nI k) :: .ref a :: rest)) := by
  refine va_iast hexec hb hK hP hD hS q0 t0 ha ht (vp_in_nI hk hn) hdg ?_
  rw [nI_clamp (Nat.lt_trans hk hn)]; exact kk
theorem q_last (hexec : p.tables.exec = Jvm.exec) (hb : c.code = cc) (hK : va_K D cl tys s) (hP : va_P D cl ws H) (hD : va_D A ws) (hS : va_S A H0 H locs) (q0 t0 : Nat) {cA : ClassId} {n : Nat} {f : Nat → Int64} (ha : ws[q0]? = some (a, .inl (cA, n, .inr (.inl f)))) (ht : tys[t0]? = some (cA, .long)) (k : Nat) {x : Int64} (hk : k < n) (hn : n < 2 ^ 31) (hdg : decode cc pc = .ok (.lastore, 1))
    (kk : ∀ (H1 : Heap) (locs1 : List Loc), va_P D cl (ws.set q0 (a, .inl (cA, n, .inr (.inl (vp_updL f k x))))) H1 → va_D A (ws.set q0 (a, .inl (cA, n, .inr (.inl (vp_updL f k x))))) → va_S A H0 H1 locs1 → W p l e R s m args below meth c H1 locs1 cells slots Q (F0 m (pc + 1) ls rest)) : W p l e R s m args below meth c H locs cells slots Q (F0 m pc ls (.long x :: .int (nI k) :: .ref a :: rest)) := by
  refine va_last hexec hb hK hP hD hS q0 t0 ha ht (vp_in_nI hk hn) hdg ?_
  rw [nI_clamp (Nat.lt_trans hk hn)]; exact kk
/-- branches on small numbers -/
theorem q_icmp_ge (hexec : p.tables.exec = Jvm.exec) (hb : c.code = cc) {a b : Nat} (ha : a < 2 ^ 31) (hb2 : b < 2 ^ 31) {off : Int} {tgt : Nat} (hdg : decode cc pc = .ok (.if_icmp .ge off, 3)) (ht : (pc : Int) + off = (tgt : Int))
    (kt : b ≤ a → W p l e R s m args below meth c H locs cells slots Q (F0 m tgt ls rest)) (kf : a < b → W p l e R s m args below meth c H locs cells slots Q (F0 m (pc + 3) ls rest)) : W p l e R s m args below meth c H locs cells slots Q (F0 m pc ls (.int (nI b) :: .int (nI a) :: rest)) :=
  lv_icmp_ge hexec hb hdg ht (fun h => kt ((nI_leI hb2 ha).mp h)) (fun h => kf (Nat.not_le.mp fun q => h ((nI_leI hb2 ha).mpr q)))
theorem q_icmp_lt (hexec : p.tables.exec = Jvm.exec) (hb : c.code = cc) {a b : Nat} (ha : a < 2 ^ 31) (hb2 : b < 2 ^ 31) {off : Int} {tgt : Nat} (hdg : decode cc pc = .ok (.if_icmp .lt off, 3)) (ht : (pc : Int) + off = (tgt : Int))
    (kt : a < b → W p l e R s m args below meth c H locs cells slots Q (F0 m tgt ls rest)) (kf : b ≤ a → W p l e R s m args below meth c H locs cells slots Q (F0 m (pc + 3) ls rest)) : W p l e R s m args below meth c H locs cells slots Q (F0 m pc ls (.int (nI b) :: .int (nI a) :: rest)) :=
  lv_icmp_lt hexec hb hdg ht (fun h => kt ((nI_ltI ha hb2).mp h)) (fun h => kf (Nat.not_lt.mp fun q => h ((nI_ltI ha hb2).mpr q)))
theorem q_icmp_gt (hexec : p.tables.exec = Jvm.exec) (hb : c.code = cc) {a b : Nat} (ha : a < 2 ^ 31) (hb2 : b < 2 ^ 31) {off : Int} {tgt : Nat} (hdg : decode cc pc = .ok (.if_icmp .gt off, 3)) (ht : (pc : Int) + off = (tgt : Int))
    (kt : b < a → W p l e R s m args below meth c H locs cells slots Q (F0 m tgt ls rest)) (kf : a ≤ b → W p l e R s m args below meth c H locs cells slots Q (F0 m (pc + 3) ls rest)) : W p l e R s m args below meth c H locs cells slots Q (F0 m pc ls (.int (nI b) :: .int (nI a) :: rest)) :=
  lv_icmp_gt hexec hb hdg ht (fun h => kt ((nI_ltI hb2 ha).mp h)) (fun h => kf (Nat.not_lt.mp fun q => h ((nI_ltI hb2 ha).mpr q)))
theorem q_icmp_le (hexec : p.tables.exec = Jvm.exec) (hb : c.code = cc) {a b : Nat} (ha : a < 2 ^ 31) (hb2 : b < 2 ^ 31) {off : Int} {tgt : Nat} (hdg : decode cc pc = .ok (.if_icmp .le off, 3)) (ht : (pc : Int) + off = (tgt : Int))
    (kt : a ≤ b → W p l e R s m args below meth c H locs cells slots Q (F0 m tgt ls rest)) (kf : b < a → W p l e R s m args below meth c H locs cells slots Q (F0 m (pc + 3) ls rest)) : W p l e R s m args below meth c H locs cells slots Q (F0 m pc ls (.int (nI b) :: .int (nI a) :: rest)) :=
  lv_icmp_le hexec hb hdg ht (fun h => kt ((nI_leI ha hb2).mp h)) (fun h => kf (Nat.not_le.mp fun q => h ((nI_leI ha hb2).mpr q)))
theorem q_icmp_eq (hexec : p.tables.exec = Jvm.exec) (hb : c.code = cc) {a b : Nat} (ha : a < 2 ^ 31) (hb2 : b < 2 ^ 31) {off : Int} {tgt : Nat} (hdg : decode cc pc = .ok (.if_icmp .eq off, 3)) (ht : (pc : Int) + off = (tgt : Int))
    (kt : a = b → W p l e R s m args below meth c H locs cells slots Q (F0 m tgt ls rest)) (kf : ¬ a = b → W p l e R s m args below meth c H locs cells slots Q (F0 m (pc + 3) ls rest)) : W p l e R s m args below meth c H locs cells slots Q (F0 m pc ls (.int (nI b) :: .int (nI a) :: rest)) :=
  lv_icmp_eq hexec hb hdg ht (fun h => kt ((nI_eq ha hb2).mp h)) (fun h => kf (fun q => h ((nI_eq ha hb2).mpr q)))
theorem q_icmp_ne (hexec : p.tables.exec = Jvm.exec) (hb : c.code = cc) {a b : Nat} (ha : a < 2 ^ 31) (hb2 : b < 2 ^ 31) {off : Int} {tgt : Nat} (hdg : decode cc pc = .ok (.if_icmp .ne off, 3)) (ht : (pc : Int) + off = (tgt : Int))
    (kt : ¬ a = b → W p l e R s m args below meth c H locs cells slots Q (F0 m tgt ls rest)) (kf : a = b → W p l e R s m args below meth c H locs cells slots Q (F0 m (pc + 3) ls rest)) : W p l e R s m args below meth c H locs cells slots Q (F0 m pc ls (.int (nI b) :: .int (nI a) :: rest)) :=
  lv_icmp_ne hexec hb hdg ht (fun h => kt (fun q => h ((nI_eq ha hb2).mpr q))) (fun h => kf ((nI_eq ha hb2).mp h))
/-- a call that reads: the heap is as it was -/
theorem q_callR {r : Int32} {av : Array Value} (hr : va_Run p l e R s m args below meth c H locs cells slots 0 0 (F0 m pc ls st0) rest (QcRead r av) (fun _ => False))
    (kk : W p l e R s m args below meth c H locs cells slots Q (F0 m (pc + 3) ls (.int r :: rest))) : W p l e R s m args below meth c H locs cells slots Q (F0 m pc ls st0) := by
  intro T hT X
  obtain ⟨v, st₀, t, T', L, h0, X', hL, e1, -, ⟨hv, hh⟩, st⟩ := hr T hT X
  cases hv
  obtain ⟨t2, a1, b1⟩ := kk T' (by rw [e1, hh, h0]) (Stand.forget X' (fun q h => (hL q h).elim))
  exact ⟨t2, st t2 a1, b1⟩
end TL
/-! Contracts over one world: what reads (RD) and what writes (WR) -/
def RD (l : Launch) (y : MethodName) (ws : List Cond) (rm : Room) (av : List Value) (D : va_G) (cl : List vw_C) (w : va_W) (tys : List (ClassId × FieldType)) (r : Int32) : Prop :=
  Met l y ws rm (va_Pc av (fun U => va_P D cl w U.heap ∧ va_K D cl tys U)) (QcRead r) 0 0 (fun _ => False)
def WRi (l : Launch) (y : MethodName) (ws : List Cond) (rm : Room) (av : List Value) (D : va_G) (cl : List vw_C) (w w' : va_W) (tys : List (ClassId × FieldType)) (r : Int32) : Prop :=
  ∀ sz : Nat, Met l y ws rm (va_Pc av (fun U => U.heap.size = sz ∧ va_P D cl w U.heap ∧ va_K D cl tys U ∧ va_D (fun _ => True) w)) (va_Qi (fun (r' : Int32) (_ : Unit) => r' = r) (fun _ t => va_P D cl w' t.heap) (va_A w sz)) 0 0 (va_A w sz)
def WRv (l : Launch) (y : MethodName) (ws : List Cond) (rm : Room) (av : List Value) (D : va_G) (cl : List vw_C) (w w' : va_W) (tys : List (ClassId × FieldType)) : Prop :=
  ∀ sz : Nat, Met l y ws rm (va_Pc av (fun U => U.heap.size = sz ∧ va_P D cl w U.heap ∧ va_K D cl tys U ∧ va_D (fun _ => True) w)) (va_Qv (fun (_ : Unit) => True) (fun _ t => va_P D cl w' t.heap) (va_A w sz)) 0 0 (va_A w sz)
section TL2
variable {l : Launch} {y : MethodName} {rm : Room} {av : List Value} {D : va_G} {cl : List vw_C} {w w' : va_W} {tys : List (ClassId × FieldType)} {cc : ByteArray} {maxL : Nat} {r : Int32} {ty : FieldType} {TB : List Cond}
theorem rd_of (hy : plainName y.cls = true) (hn : narrow ty (.int r) = .int r) (hent : (lg_sl av).length ≤ maxL)
    (body : ∀ (p : Program) (e : Env) (s : State) (m : MethodId) (args : Array Value) (below : List Frame) (meth : Method) (c : Code) (Q : State → Prop) (ls : Array Slot),
      p.tables.exec = Jvm.exec → c.code = cc → c.maxLocals = maxL → (∀ w ∈ TB, w.before args s = true) → s.vm.findClass y.cls = some m.cls → va_P D cl w s.heap → va_K D cl tys s → lv_has ls maxL (lv_args 0 av) →
      (∀ (v : Int32) (pc : Nat) (ls : Array Slot), v = r → decode cc pc = .ok (.ireturn, 1) → W p l e rm s m args below meth c s.heap [] 0 0 Q (F0 m pc ls [.int v])) →
      W p l e rm s m args below meth c s.heap [] 0 0 Q (F0 m 0 ls [])) :
    RD l y (.code y cc maxL (some ty) :: TB) rm av D cl w tys r := by
  refine Met.ofW (cc := cc) (maxL := maxL) (ret := some ty) hy rfl ?_
  intro p e s m args below meth c s₁ B hml hv
  obtain ⟨rfl, hP, hK⟩ := hv
  have hl := lv_entry av hent
  rw [lg_entry_eq]
  generalize (lg_sl av ++ List.replicate (maxL - (lg_sl av).length) Slot.unset).toArray = ls at hl ⊢
  refine body p e s m _ below meth c _ ls B.exec B.bytes hml (fun w hw => atoms_spec (ws := .code y cc maxL (some ty) :: TB) B.pre w (List.mem_cons_of_mem _ hw)) (findClass_of_methodNamed B.named) hP hK hl ?_
  intro v pc ls hv hd
  subst hv
  exact W.zret B.exec B.bytes B.returns hn (fun t ht _ => ⟨rfl, ht⟩) (fun q h => by cases h) hd (hlocks := B.notSynchronized)
theorem wr_of (hy : plainName y.cls = true) (hn : narrow ty (.int r) = .int r) (hent : (lg_sl av).length ≤ maxL)
    (body : ∀ (p : Program) (e : Env) (s : State) (m : MethodId) (args : Array Value) (below : List Frame) (meth : Method) (c : Code) (Q : State → Prop) (ls : Array Slot) (A : Nat → Prop),
      p.tables.exec = Jvm.exec → c.code = cc → c.maxLocals = maxL → (∀ w ∈ TB, w.before args s = true) → s.vm.findClass y.cls = some m.cls → va_P D cl w s.heap → va_K D cl tys s → va_D A w → va_S A s.heap s.heap [] → (∀ q : Nat, s.heap.size ≤ q → A q) → lv_has ls maxL (lv_args 0 av) →
      (∀ (v : Int32) (pc : Nat) (ls : Array Slot) (H : Heap) (locs : List Loc), v = r → va_P D cl w' H → va_S A s.heap H locs → decode cc pc = .ok (.ireturn, 1) → W p l e rm s m args below meth c H locs 0 0 Q (F0 m pc ls [.int v])) →
      W p l e rm s m args below meth c s.heap [] 0 0 Q (F0 m 0 ls [])) :
    WRi l y (.code y cc maxL (some ty) :: TB) rm av D cl w w' tys r := by
  intro sz
  refine Met.ofW (cc := cc) (maxL := maxL) (ret := some ty) hy rfl ?_
  intro p e s m args below meth c s₁ B hml hv
  obtain ⟨rfl, hsz, hP, hK, hD0⟩ := hv
  subst hsz
  have hl := lv_entry av hent
  rw [lg_entry_eq]
  generalize (lg_sl av ++ List.replicate (maxL - (lg_sl av).length) Slot.unset).toArray = ls at hl ⊢
  refine body p e s m _ below meth c _ ls (va_A w s.heap.size) B.exec B.bytes hml (fun w hw => atoms_spec (ws := .code y cc maxL (some ty) :: TB) B.pre w (List.mem_cons_of_mem _ hw)) (findClass_of_methodNamed B.named) hP hK hD0.self va_S.rf (fun q h => Or.inr h) hl ?_
  intro v pc ls H locs hv hP1 hS hd
  subst hv
  exact W.zret B.exec B.bytes B.returns hn (fun t ht _ => ⟨⟨_, (), rfl, rfl, show va_P D cl w' t.heap by rw [ht]; exact hP1⟩, hS.F ht⟩) hS.2.2 hd (hlocks := B.notSynchronized)
theorem wv_of (hy : plainName y.cls = true) (hent : (lg_sl av).length ≤ maxL)
    (body : ∀ (p : Program) (e : Env) (s : State) (m : MethodId) (args : Array Value) (below : List Frame) (meth : Method) (c : Code) (Q : State → Prop) (ls : Array Slot) (A : Nat → Prop),
      p.tables.exec = Jvm.exec → c.code = cc → c.maxLocals = maxL → (∀ w ∈ TB, w.before args s = true) → s.vm.findClass y.cls = some m.cls → va_P D cl w s.heap → va_K D cl tys s → va_D A w → va_S A s.heap s.heap [] → (∀ q : Nat, s.heap.size ≤ q → A q) → lv_has ls maxL (lv_args 0 av) →
      (∀ (pc : Nat) (ls : Array Slot) (H : Heap) (locs : List Loc), va_P D cl w' H → va_S A s.heap H locs → decode cc pc = .ok (.return_, 1) → W p l e rm s m args below meth c H locs 0 0 Q (F0 m pc ls [])) →
      W p l e rm s m args below meth c s.heap [] 0 0 Q (F0 m 0 ls [])) :
    WRv l y (.code y cc maxL none :: TB) rm av D cl w w' tys := by
  intro sz
  refine Met.ofW (cc := cc) (maxL := maxL) (ret := none) hy rfl ?_
  intro p e s m args below meth c s₁ B hml hv
  obtain ⟨rfl, hsz, hP, hK, hD0⟩ := hv
  subst hsz
  have hl := lv_entry av hent
  rw [lg_entry_eq]
  generalize (lg_sl av ++ List.replicate (maxL - (lg_sl av).length) Slot.unset).toArray = ls at hl ⊢
  refine body p e s m _ below meth c _ ls (va_A w s.heap.size) B.exec B.bytes hml (fun w hw => atoms_spec (ws := .code y cc maxL none :: TB) B.pre w (List.mem_cons_of_mem _ hw)) (findClass_of_methodNamed B.named) hP hK hD0.self va_S.rf (fun q h => Or.inr h) hl ?_
  intro pc ls H locs hP1 hS hd
  exact W.vret B.exec B.bytes B.returns (fun t ht _ => ⟨⟨(), rfl, trivial, show va_P D cl w' t.heap by rw [ht]; exact hP1⟩, hS.F ht⟩) hS.2.2 hd (hlocks := B.notSynchronized)
end TL2
section TL3
variable {p : Program} {l : Launch} {e : Env} {R : Room} {s : State} {m : MethodId} {args : Array Value} {below : List Frame} {meth : Method} {c : Code} {H : Heap} {locs : List Loc} {cells slots : Nat} {Q : State → Prop}
variable {y : MethodName} {rm : Room} {As rest st0 : List Value} {D : va_G} {cl : List vw_C} {w w' : va_W} {tys : List (ClassId × FieldType)} {cc bytes : ByteArray} {maxL nL n index b pc : Nat} {r : Int32} {ret : Option FieldType} {TB : List Cond} {own C : String} {ls : Array Slot} {A : Nat → Prop} {H0 : Heap}
theorem fb_R {av : List Value} : FrameBlind (va_Pc av (fun U => va_P D cl w U.heap ∧ va_K D cl tys U)) := fun a U g mk q => by
  obtain ⟨q0, qP, qK⟩ := q
  exact ⟨q0, qP, va_K.moved (u := U) (U := U.calling g mk a) (Vm.Alike.refl U.vm) qK⟩
theorem fb_W {av : List Value} {sz : Nat} : FrameBlind (va_Pc av (fun U => U.heap.size = sz ∧ va_P D cl w U.heap ∧ va_K D cl tys U ∧ va_D (fun _ => True) w)) := fun a U g mk q => by
  obtain ⟨q0, q1, qP, qK, qD⟩ := q
  exact ⟨q0, q1, qP, va_K.moved (u := U) (U := U.calling g mk a) (Vm.Alike.refl U.vm) qK, qD⟩
/-- words of a virtual call, out of one table -/
theorem gV (hgood : ∀ w ∈ TB, goodWord w = true) (h1 : Cond.methodLink own index y ∈ TB) (h2 : Cond.instanceMethod y ∈ TB) (h3 : Cond.selects C y y ∈ TB) (h4 : Cond.initialized C ∈ TB) (h5 : Cond.code y bytes maxL ret ∈ TB) : GoodIn TB (wsV own index C y (.code y bytes maxL ret :: TB)) := by
  intro w hw
  have hm : w ∈ TB := by
    unfold wsV at hw
    simp only [List.cons_append, List.nil_append, List.mem_cons] at hw
    rcases hw with rfl | rfl | rfl | rfl | rfl | h
    · exact h1
    · exact h2
    · exact h3
    · exact h4
    · exact h5
    · exact h
  exact ⟨hm, good_of_word (hgood w hm)⟩
theorem gS (hgood : ∀ w ∈ TB, goodWord w = true) (h1 : Cond.methodLink own index y ∈ TB) (h2 : Cond.static y ∈ TB) (h4 : Cond.initialized y.cls ∈ TB) (h5 : Cond.code y bytes maxL ret ∈ TB) : GoodIn TB (va_wsS own index y (.code y bytes maxL ret :: TB)) := by
  intro w hw
  have hm : w ∈ TB := by
    unfold va_wsS at hw
    simp only [List.cons_append, List.nil_append, List.mem_cons] at hw
    rcases hw with rfl | rfl | rfl | rfl | h
    · exact h1
    · exact h2
    · exact h4
    · exact h5
    · exact h
  exact ⟨hm, good_of_word (hgood w hm)⟩
theorem rdV (S : CallFix p m c cc nL s args TB own) (hM : RD l y (.code y bytes maxL ret :: TB) rm (.ref b :: As) D cl w tys r) (cw : CallW R s args own C index y bytes maxL ret (.code y bytes maxL ret :: TB) rm 0 0 n) (hP : va_P D cl w H) (hK : va_K D cl tys s)
    (hrv : ∃ cell : Cell, H[b]? = some cell ∧ cell.vm.isStatics = false ∧ s.vm.findClass C = some cell.cls) (hn : As.length = n) (hls : ls.size = nL) (hst : st0 = As.reverse ++ .ref b :: rest) (hroom : 2 * (F0 m pc ls st0).monitorRoom + (rest.map fun v => v.category).sum ≤ 8) (hdg : decode cc pc = .ok (.invokevirtual index, 3)) (hf : cells ≤ R.cells ∧ slots ≤ R.slots)
    (kk : W p l e R s m args below meth c H locs cells slots Q (F0 m (pc + 3) ls (.int r :: rest))) : W p l e R s m args below meth c H locs cells slots Q (F0 m pc ls st0) :=
  q_callR (va_runV (As := As) (rest := rest) (b := b) S hM cw ⟨fb_R, hrv, fun U hU hW => ⟨rfl, by rw [hU]; exact hP, va_K.moved hW.alike hK⟩⟩ rfl hn hls hst hroom hdg hf) kk
theorem rdS (S : CallFix p m c cc nL s args TB own) (hM : RD l y (.code y bytes maxL ret :: TB) rm As D cl w tys r) (cw : CallB R s args own index y bytes maxL ret (.code y bytes maxL ret :: TB) rm 0 0 n ∧ (Cond.static y).before args s = true) (hP : va_P D cl w H) (hK : va_K D cl tys s)
    (hn : As.length = n) (hls : ls.size = nL) (hst : st0 = As.reverse ++ rest) (hroom : 2 * (F0 m pc ls st0).monitorRoom + (rest.map fun v => v.category).sum ≤ 8) (hdg : decode cc pc = .ok (.invokestatic index, 3)) (hf : cells ≤ R.cells ∧ slots ≤ R.slots)
    (kk : W p l e R s m args below meth c H locs cells slots Q (F0 m (pc + 3) ls (.int r :: rest))) : W p l e R s m args below meth c H locs cells slots Q (F0 m pc ls st0) :=
  q_callR (va_runS (As := As) (rest := rest) S hM cw ⟨fb_R, fun U hU hW => ⟨rfl, by rw [hU]; exact hP, va_K.moved hW.alike hK⟩⟩ rfl hn hls hst hroom hdg hf) kk
theorem free_W (hS : va_S A H0 H locs) (hD : va_D A w) (hA : ∀ q, H0.size ≤ q → A q) : ∀ q, va_A w H.size q → A q := fun q h => by
  rcases h with ⟨k, e1, hk⟩ | h
  · exact hD.2 k _ hk
  · exact hA q (Nat.le_trans hS.1 h)
theorem wrV (S : CallFix p m c cc nL s args TB own) (hM : WRi l y (.code y bytes maxL ret :: TB) rm (.ref b :: As) D cl w w' tys r) (cw : CallW R s args own C index y bytes maxL ret (.code y bytes maxL ret :: TB) rm 0 0 n) (hP : va_P D cl w H) (hK : va_K D cl tys s) (hD : va_D A w) (hS : va_S A H0 H locs) (hA : ∀ q, H0.size ≤ q → A q)
    (hrv : ∃ cell : Cell, H[b]? = some cell ∧ cell.vm.isStatics = false ∧ s.vm.findClass C = some cell.cls) (hn : As.length = n) (hls : ls.size = nL) (hst : st0 = As.reverse ++ .ref b :: rest) (hroom : 2 * (F0 m pc ls st0).monitorRoom + (rest.map fun v => v.category).sum ≤ 8) (hdg : decode cc pc = .ok (.invokevirtual index, 3)) (hf : cells ≤ R.cells ∧ slots ≤ R.slots)
    (kk : ∀ (H1 : Heap) (locs1 : List Loc), va_P D cl w' H1 → va_S A H0 H1 locs1 → W p l e R s m args below meth c H1 locs1 cells slots Q (F0 m (pc + 3) ls (.int r :: rest))) : W p l e R s m args below meth c H locs cells slots Q (F0 m pc ls st0) :=
  va_calli (va_runV (As := As) (rest := rest) (b := b) S (hM H.size) cw ⟨fb_W, hrv, fun U hU hW => ⟨rfl, by rw [hU], by rw [hU]; exact hP, va_K.moved hW.alike hK, hD.weaken (fun _ _ _ _ => trivial)⟩⟩ rfl hn hls hst hroom hdg hf) hS (fun q _ h => free_W hS hD hA q h) (free_W hS hD hA) (fun r' u t H1 locs1 ht hvm hw hB hz hk hS1 => by
    subst hw
    exact kk H1 locs1 (by rw [← ht]; exact hB) hS1)
theorem wvV (S : CallFix p m c cc nL s args TB own) (hM : WRv l y (.code y bytes maxL ret :: TB) rm (.ref b :: As) D cl w w' tys) (cw : CallW R s args own C index y bytes maxL ret (.code y bytes maxL ret :: TB) rm 0 0 n) (hP : va_P D cl w H) (hK : va_K D cl tys s) (hD : va_D A w) (hS : va_S A H0 H locs) (hA : ∀ q, H0.size ≤ q → A q)
    (hrv : ∃ cell : Cell, H[b]? = some cell ∧ cell.vm.isStatics = false ∧ s.vm.findClass C = some cell.cls) (hn : As.length = n) (hls : ls.size = nL) (hst : st0 = As.reverse ++ .ref b :: rest) (hroom : 2 * (F0 m pc ls st0).monitorRoom + (rest.map fun v => v.category).sum ≤ 8) (hdg : decode cc pc = .ok (.invokevirtual index, 3)) (hf : cells ≤ R.cells ∧ slots ≤ R.slots)
    (kk : ∀ (H1 : Heap) (locs1 : List Loc), va_P D cl w' H1 → va_S A H0 H1 locs1 → W p l e R s m args below meth c H1 locs1 cells slots Q (F0 m (pc + 3) ls rest)) : W p l e R s m args below meth c H locs cells slots Q (F0 m pc ls st0) :=
  va_callv (va_runV (As := As) (rest := rest) (b := b) S (hM H.size) cw ⟨fb_W, hrv, fun U hU hW => ⟨rfl, by rw [hU], by rw [hU]; exact hP, va_K.moved hW.alike hK, hD.weaken (fun _ _ _ _ => trivial)⟩⟩ rfl hn hls hst hroom hdg hf) hS (fun q _ h => free_W hS hD hA q h) (free_W hS hD hA) (fun u t H1 locs1 ht hvm hw hB hz hk hS1 =>
    kk H1 locs1 (by rw [← ht]; exact hB) hS1)
end TL3
/-! Constructors: from the bare object to the object with its arrays -/
abbrev AK : Type := (Nat → Nat) × (Nat → ClassId)
def CT (l : Launch) (y : MethodName) (ws : List Cond) (rm : Room) (av : List Value) (D : va_G) (cl : List vw_C) (w0 : va_W) (wf : AK → va_W) (tf : AK → List (ClassId × FieldType)) (mc ms : Nat) : Prop :=
  ∀ sz : Nat, Met l y ws rm (va_Pc av (fun U => U.heap.size = sz ∧ va_P D cl w0 U.heap ∧ va_K D cl [] U ∧ va_D (fun _ => True) w0)) (va_Qv (fun (_ : AK) => True) (fun u t => va_P D cl (wf u) t.heap ∧ va_K D cl (tf u) t ∧ va_D (va_A w0 sz) (wf u)) (va_A w0 sz)) mc ms (va_A w0 sz)
section TL4
variable {l : Launch} {y : MethodName} {rm : Room} {av : List Value} {D : va_G} {cl : List vw_C} {w0 : va_W} {wf : AK → va_W} {tf : AK → List (ClassId × FieldType)} {cc : ByteArray} {maxL mc ms : Nat} {TB : List Cond}
theorem ct_of (hy : plainName y.cls = true) (hyn : y.name = "<init>") (hent : (lg_sl av).length ≤ maxL)
    (body : ∀ (p : Program) (e : Env) (s : State) (m : MethodId) (args : Array Value) (below : List Frame) (meth : Method) (c : Code) (Q : State → Prop) (ls : Array Slot) (A : Nat → Prop),
      p.tables.exec = Jvm.exec → c.code = cc → c.maxLocals = maxL → (∀ w ∈ TB, w.before args s = true) → s.vm.findClass y.cls = some m.cls → meth.name = "<init>" → va_P D cl w0 s.heap → va_K D cl [] s → va_D A w0 → va_S A s.heap s.heap [] → (∀ q : Nat, s.heap.size ≤ q → A q) → lv_has ls maxL (lv_args 0 av) →
      (∀ (u : AK) (pc : Nat) (ls : Array Slot) (H : Heap) (locs : List Loc) (cells slots : Nat), va_P D cl (wf u) H → va_K D cl (tf u) s → va_D A (wf u) → va_S A s.heap H locs → cells ≤ mc → slots ≤ ms → decode cc pc = .ok (.return_, 1) → W p l e rm s m args below meth c H locs cells slots Q (F0 m pc ls [])) →
      W p l e rm s m args below meth c s.heap [] 0 0 Q (F0 m 0 ls [])) :
    CT l y (.code y cc maxL none :: TB) rm av D cl w0 wf tf mc ms := by
  intro sz
  refine Met.ofW (cc := cc) (maxL := maxL) (ret := none) hy rfl ?_
  intro p e s m args below meth c s₁ B hml hv
  obtain ⟨rfl, hsz, hP, hK, hD0⟩ := hv
  subst hsz
  have hl := lv_entry av hent
  rw [lg_entry_eq]
  generalize (lg_sl av ++ List.replicate (maxL - (lg_sl av).length) Slot.unset).toArray = ls at hl ⊢
  have hin : meth.name = "<init>" := ((name_of_methodNamed B.named B.method).1).trans hyn
  refine body p e s m _ below meth c _ ls (va_A w0 s.heap.size) B.exec B.bytes hml (fun w hw => atoms_spec (ws := .code y cc maxL none :: TB) B.pre w (List.mem_cons_of_mem _ hw)) (findClass_of_methodNamed B.named) hin hP hK hD0.self va_S.rf (fun q h => Or.inr h) hl ?_
  intro u pc ls H locs cells slots hP1 hK1 hD1 hS hc hs hd
  refine W.widen hc hs ?_
  exact W.vret B.exec B.bytes B.returns (fun t ht hW => ⟨⟨u, rfl, trivial, by rw [ht]; exact hP1, va_K.moved hW.alike hK1, hD1⟩, hS.F ht⟩) hS.2.2 hd (hlocks := B.notSynchronized)
end TL4
end
section
/-! Own words: truth values as ints, loops over numbers -/
def bI (b : Bool) : Int32 := if b = true then 1 else 0
theorem bI_nar (b : Bool) : narrow .boolean (.int (bI b)) = .int (bI b) := by cases b <;> rfl
theorem bI_t {b : Bool} (h : ¬ bI b = 0) : b = true := by cases b with
  | true => rfl
  | false => exact absurd rfl h
theorem bI_f {b : Bool} (h : bI b = 0) : b = false := by cases b with
  | true => exact absurd h (by decide)
  | false => rfl
/-- x is one of 0 .. n - 1 -/
def inN (n : Nat) (x : Int32) : Bool := if x < 0 then false else if nI n ≤ x then false else true
theorem inN_ix {n : Nat} {x : Int32} (h : inN n x = true) (hn : n < 2 ^ 31) : ∃ k, k < n ∧ x = nI k := by
  unfold inN at h
  split at h
  · cases h
  · rename_i h1
    split at h
    · cases h
    · rename_i h2
      obtain ⟨j, hj, rfl⟩ := nI_of h1
      exact ⟨j, Nat.not_le.mp fun q => h2 ((nI_leI hn hj).mpr q), rfl⟩
theorem inN_nI {n k : Nat} (hk : k < n) (hn : n < 2 ^ 31) : inN n (nI k) = true := by
  unfold inN
  rw [if_neg (nI_pos (Nat.lt_trans hk hn)), if_neg (nI_ge hk hn)]
def anyN (P : Nat → Bool) : Nat → Bool
  | 0 => false
  | n + 1 => anyN P n || P n
theorem anyN_hit {P : Nat → Bool} {i : Nat} (h : P i = true) : ∀ {n : Nat}, i < n → anyN P n = true
  | 0, h0 => absurd h0 (Nat.not_lt_zero _)
  | n + 1, h0 => by
    unfold anyN
    rcases Nat.lt_or_ge i n with q | q
    · rw [anyN_hit h q]; rfl
    · have e : i = n := by omega
      subst e
      rw [h, Bool.or_true]
theorem anyN_off {P : Nat → Bool} : ∀ {n : Nat}, anyN P n = false → ∀ i, i < n → P i = false
  | 0, _, i, h => absurd h (Nat.not_lt_zero _)
  | n + 1, h0, i, h => by
    unfold anyN at h0
    rw [Bool.or_eq_false_iff] at h0
    rcases Nat.lt_or_ge i n with q | q
    · exact anyN_off h0.1 i q
    · have e : i = n := by omega
      subst e
      exact h0.2
theorem anyN_on {P : Nat → Bool} : ∀ {n : Nat}, anyN P n = true → ∃ i, i < n ∧ P i = true
  | 0, h => by cases h
  | n + 1, h => by
    unfold anyN at h
    rw [Bool.or_eq_true] at h
    rcases h with h | h
    · obtain ⟨i, h1, h2⟩ := anyN_on h
      exact ⟨i, Nat.lt_succ_of_lt h1, h2⟩
    · exact ⟨n, Nat.lt_succ_self n, h⟩
theorem anyN_congr {P R : Nat → Bool} : ∀ {n : Nat}, (∀ i, i < n → P i = R i) → anyN P n = anyN R n
  | 0, _ => rfl
  | n + 1, h => by
    unfold anyN
    rw [anyN_congr (fun i hi => h i (Nat.lt_succ_of_lt hi)), h n (Nat.lt_succ_self n)]
def cntN (P : Nat → Bool) : Nat → Nat
  | 0 => 0
  | n + 1 => if P n = true then cntN P n + 1 else cntN P n
theorem cntN_le (P : Nat → Bool) : ∀ n, cntN P n ≤ n
  | 0 => Nat.le_refl 0
  | n + 1 => by
    have := cntN_le P n
    unfold cntN
    split <;> omega
theorem cntN_t {P : Nat → Bool} {n : Nat} (h : P n = true) : cntN P (n + 1) = cntN P n + 1 := by
  show (if P n = true then cntN P n + 1 else cntN P n) = _
  rw [if_pos h]
theorem cntN_f {P : Nat → Bool} {n : Nat} (h : P n = false) : cntN P (n + 1) = cntN P n := by
  show (if P n = true then cntN P n + 1 else cntN P n) = _
  rw [if_neg (by rw [h]; decide)]
theorem cntN_congr {P R : Nat → Bool} : ∀ {n : Nat}, (∀ i, i < n → P i = R i) → cntN P n = cntN R n
  | 0, _ => rfl
  | n + 1, h => by
    unfold cntN
    rw [cntN_congr (fun i hi => h i (Nat.lt_succ_of_lt hi)), h n (Nat.lt_succ_self n)]
def sumN (f : Nat → Int32) : Nat → Int32
  | 0 => 0
  | n + 1 => sumN f n + f n
theorem sumN_congr {f g : Nat → Int32} : ∀ {n : Nat}, (∀ i, i < n → f i = g i) → sumN f n = sumN g n
  | 0, _ => rfl
  | n + 1, h => by
    unfold sumN
    rw [sumN_congr (fun i hi => h i (Nat.lt_succ_of_lt hi)), h n (Nat.lt_succ_self n)]
/-- the x-th number below n with P, or -1 -/
def pickN (P : Nat → Bool) (x : Int32) : Nat → Int32
  | 0 => -1
  | n + 1 => if pickN P x n = -1 then (if P n = true then (if nI (cntN P n) = x then nI n else -1) else -1) else pickN P x n
theorem pickN_miss {P : Nat → Bool} {x : Int32} {n : Nat} (h : pickN P x n = -1) (hp : P n = false) : pickN P x (n + 1) = -1 := by
  show (if pickN P x n = -1 then (if P n = true then (if nI (cntN P n) = x then nI n else -1) else -1) else pickN P x n) = -1
  rw [if_pos h, if_neg (by rw [hp]; decide)]
theorem pickN_pass {P : Nat → Bool} {x : Int32} {n : Nat} (h : pickN P x n = -1) (hx : ¬ nI (cntN P n) = x) : pickN P x (n + 1) = -1 := by
  show (if pickN P x n = -1 then (if P n = true then (if nI (cntN P n) = x then nI n else -1) else -1) else pickN P x n) = -1
  rw [if_pos h, if_neg hx]
  split <;> rfl
theorem nI_nm1 {n : Nat} (h : n < 2 ^ 31) : ¬ nI n = -1 := fun q => nI_pos h (by rw [q]; decide)
theorem pickN_hit {P : Nat → Bool} {x : Int32} {i : Nat} (hi : i < 2 ^ 31) (h : pickN P x i = -1) (hp : P i = true) (hx : nI (cntN P i) = x) : ∀ {n : Nat}, i < n → pickN P x n = nI i
  | 0, h0 => absurd h0 (Nat.not_lt_zero _)
  | n + 1, h0 => by
    show (if pickN P x n = -1 then (if P n = true then (if nI (cntN P n) = x then nI n else -1) else -1) else pickN P x n) = _
    rcases Nat.lt_or_ge i n with q | q
    · rw [pickN_hit hi h hp hx q, if_neg (nI_nm1 hi)]
    · have e : i = n := by omega
      subst e
      rw [if_pos h, if_pos hp, if_pos hx]
theorem wb_tb (n : Nat) : (lN n).toBitVec = BitVec.ofNat 64 n := rfl
theorem wb_inj {a b : Int64} (h : a.toBitVec = b.toBitVec) : a = b := Int64.toBitVec_inj.mp h
theorem wb_tn {n : Nat} (h : n < 2 ^ 64) : (lN n).toBitVec.toNat = n := by rw [wb_tb, BitVec.toNat_ofNat, Nat.mod_eq_of_lt h]
theorem wb_of (x : Int64) : ∃ n, n < 2 ^ 64 ∧ x = lN n := ⟨x.toBitVec.toNat, x.toBitVec.isLt, wb_inj (by rw [wb_tb]; simp)⟩
theorem wb_of32 (x : Int32) : ∃ n, n < 2 ^ 32 ∧ x = nI n := ⟨x.toBitVec.toNat, x.toBitVec.isLt, Int32.toBitVec_inj.mp (by show _ = BitVec.ofNat 32 _; simp)⟩
theorem wb_c : ∀ k, k < 64 → ((nI k).toInt64 &&& 63) = lN k := by decide +kernel
theorem wb_cu : ∀ k, k < 64 → ((nI k).toInt64.toUInt64 &&& Int64.toUInt64 63) = UInt64.ofNat k := by decide +kernel
theorem wb_sm : ∀ k, k < 64 → (BitVec.ofNat 64 k).smod 64 = BitVec.ofNat 64 k := by decide +kernel
theorem wb_pw {a b : Nat} (h : a ≤ b) : 2 ^ b = 2 ^ a * 2 ^ (b - a) := by rw [← Nat.pow_add]; congr 1; omega
theorem wb_lt2 {a b : Nat} (h : a < b) : 2 ^ a < 2 ^ b := Nat.pow_lt_pow_right (by decide) h
theorem wb_mod (n : Nat) : lN n = lN (n % 2 ^ 64) := wb_inj (by rw [wb_tb, wb_tb]; apply BitVec.eq_of_toNat_eq; rw [BitVec.toNat_ofNat, BitVec.toNat_ofNat, Nat.mod_mod])
theorem wb_shr {n k : Nat} (hn : n < 2 ^ 64) (hk : k < 64) : ((lN n).toUInt64 >>> ((nI k).toInt64.toUInt64 &&& Int64.toUInt64 63)).toInt64 = lN (n / 2 ^ k) := by
  rw [wb_cu k hk]
  apply wb_inj
  apply BitVec.eq_of_toNat_eq
  show ((lN n).toUInt64 >>> UInt64.ofNat k).toNat = (BitVec.ofNat 64 _).toNat
  have h1 : (UInt64.ofNat k).toNat = k := by
    show (BitVec.ofNat 64 k).toNat = k
    rw [BitVec.toNat_ofNat, Nat.mod_eq_of_lt (by omega)]
  have h2 : (lN n).toUInt64.toNat = n := wb_tn hn
  rw [UInt64.toNat_shiftRight, h1, h2, Nat.mod_eq_of_lt hk, Nat.shiftRight_eq_div_pow, BitVec.toNat_ofNat, Nat.mod_eq_of_lt (Nat.lt_of_le_of_lt (Nat.div_le_self _ _) hn)]
theorem wb_shl (n : Nat) {k : Nat} (hk : k < 64) : lN n <<< ((nI k).toInt64 &&& 63) = lN (n * 2 ^ k) := by
  rw [wb_c k hk]
  apply wb_inj
  rw [Int64.toBitVec_shiftLeft, wb_tb, wb_tb, wb_tb, wb_sm k hk]
  apply BitVec.eq_of_toNat_eq
  rw [BitVec.shiftLeft_eq', BitVec.toNat_shiftLeft, BitVec.toNat_ofNat, BitVec.toNat_ofNat, BitVec.toNat_ofNat, Nat.mod_eq_of_lt (show k < 2 ^ 64 by omega), Nat.shiftLeft_eq, Nat.mul_mod, Nat.mod_mod, ← Nat.mul_mod]
theorem wb_and {a b : Nat} (ha : a < 2 ^ 64) (hb : b < 2 ^ 64) : lN a &&& lN b = lN (a &&& b) := by
  apply wb_inj
  rw [Int64.toBitVec_and, wb_tb, wb_tb, wb_tb]
  apply BitVec.eq_of_toNat_eq
  rw [BitVec.toNat_and, BitVec.toNat_ofNat, BitVec.toNat_ofNat, BitVec.toNat_ofNat, Nat.mod_eq_of_lt ha, Nat.mod_eq_of_lt hb, Nat.mod_eq_of_lt (Nat.and_lt_two_pow _ hb)]
theorem wb_or {a b : Nat} (ha : a < 2 ^ 64) (hb : b < 2 ^ 64) : lN a ||| lN b = lN (a ||| b) := by
  apply wb_inj
  rw [Int64.toBitVec_or, wb_tb, wb_tb, wb_tb]
  apply BitVec.eq_of_toNat_eq
  rw [BitVec.toNat_or, BitVec.toNat_ofNat, BitVec.toNat_ofNat, BitVec.toNat_ofNat, Nat.mod_eq_of_lt ha, Nat.mod_eq_of_lt hb, Nat.mod_eq_of_lt (Nat.or_lt_two_pow ha hb)]
theorem wb_mask {n k : Nat} (hn : n < 2 ^ 64) (hk : k < 64) : lN n &&& lN (2 ^ k - 1) = lN (n % 2 ^ k) := by
  rw [wb_and hn (by have := wb_lt2 hk; omega), Nat.and_two_pow_sub_one_eq_mod]
theorem wb_a1 {n : Nat} (hn : n < 2 ^ 64) : lN n &&& 1 = lN (n % 2) := wb_mask (k := 1) hn (by decide)
theorem wb_bit {n k : Nat} (hn : n < 2 ^ 64) (hk : k < 64) : ((lN n).toUInt64 >>> ((nI k).toInt64.toUInt64 &&& Int64.toUInt64 63)).toInt64 &&& 1 = lN (n / 2 ^ k % 2) := by
  rw [wb_shr hn hk, wb_a1 (Nat.lt_of_le_of_lt (Nat.div_le_self _ _) hn)]
/-! Long.bitCount: bytes, and what the three masked steps do to each -/
def vb : List Nat → Nat
  | [] => 0
  | b :: t => 256 * vb t + b
theorem and256 (y m : Nat) {b c : Nat} (hb : b < 256) (hc : c < 256) : (256 * y + b) &&& (256 * m + c) = 256 * (y &&& m) + (b &&& c) := by
  have h1 : ((256 * y + b) &&& (256 * m + c)) / 2 ^ 8 = (256 * y + b) / 2 ^ 8 &&& (256 * m + c) / 2 ^ 8 := Nat.and_div_two_pow
  have h2 : ((256 * y + b) &&& (256 * m + c)) % 2 ^ 8 = (256 * y + b) % 2 ^ 8 &&& (256 * m + c) % 2 ^ 8 := Nat.and_mod_two_pow
  rw [show (256 * y + b) / 2 ^ 8 = y by omega, show (256 * m + c) / 2 ^ 8 = m by omega] at h1
  rw [show (256 * y + b) % 2 ^ 8 = b by omega, show (256 * m + c) % 2 ^ 8 = c by omega] at h2
  omega
def t1 (b : Nat) : Nat := b - ((b / 2) &&& 85)
def t2 (b : Nat) : Nat := (b &&& 51) + ((b / 4) &&& 51)
def t3 (b : Nat) : Nat := (b + b / 16) &&& 15
theorem t1_low : ∀ e, e < 2 → ∀ b, b < 256 → (128 * e + b / 2) &&& 85 = (b / 2) &&& 85 := by decide +kernel
theorem t2_low : ∀ e, e < 4 → ∀ b, b < 256 → (64 * e + b / 4) &&& 51 = (b / 4) &&& 51 := by decide +kernel
theorem t3_low : ∀ e, e < 5 → ∀ b, b < 69 → (b + 16 * e + b / 16) &&& 15 = (b + b / 16) &&& 15 := by decide +kernel
theorem t1_le : ∀ b, b < 256 → (b / 2) &&& 85 ≤ b := by decide +kernel
theorem t2_ok : ∀ b, b < 256 → t2 (t1 b) % 16 ≤ 4 ∧ t2 (t1 b) < 69 ∧ t1 b < 256 := by decide +kernel
theorem t3_ok : ∀ b, b < 256 → t3 (t2 (t1 b)) = cntN (fun i => b.testBit i) 8 ∧ t3 (t2 (t1 b)) ≤ 8 := by decide +kernel
theorem vb_s1 : ∀ (bs : List Nat), (∀ b ∈ bs, b < 256) → (vb bs / 2) &&& vb (bs.map fun _ => 85) ≤ vb bs ∧ vb bs - ((vb bs / 2) &&& vb (bs.map fun _ => 85)) = vb (bs.map t1)
  | [], _ => ⟨Nat.le_refl 0, rfl⟩
  | b :: t, h => by
    have hb : b < 256 := h b List.mem_cons_self
    obtain ⟨i1, i2⟩ := vb_s1 t (fun x hx => h x (List.mem_cons_of_mem _ hx))
    have e1 : vb (b :: t) / 2 = 256 * (vb t / 2) + (128 * (vb t % 2) + b / 2) := by
      show (256 * vb t + b) / 2 = _
      omega
    have e2 : (vb (b :: t) / 2) &&& vb ((b :: t).map fun _ => 85) = 256 * ((vb t / 2) &&& vb (t.map fun _ => 85)) + ((b / 2) &&& 85) := by
      rw [e1, ← t1_low (vb t % 2) (Nat.mod_lt _ (by decide)) b hb]
      exact and256 _ _ (by omega) (show (85 : Nat) < 256 by decide)
    have h1 := t1_le b hb
    rw [e2]
    constructor
    · show _ ≤ 256 * vb t + b
      omega
    · show 256 * vb t + b - _ = 256 * vb (t.map t1) + t1 b
      rw [← i2, show t1 b = b - ((b / 2) &&& 85) from rfl]
      omega
theorem vb_s2 : ∀ (bs : List Nat), (∀ b ∈ bs, b < 256) → (vb bs &&& vb (bs.map fun _ => 51)) + ((vb bs / 4) &&& vb (bs.map fun _ => 51)) = vb (bs.map t2)
  | [], _ => rfl
  | b :: t, h => by
    have hb : b < 256 := h b List.mem_cons_self
    have i2 := vb_s2 t (fun x hx => h x (List.mem_cons_of_mem _ hx))
    have e1 : vb (b :: t) / 4 = 256 * (vb t / 4) + (64 * (vb t % 4) + b / 4) := by
      show (256 * vb t + b) / 4 = _
      omega
    have e2 : (vb (b :: t) / 4) &&& vb ((b :: t).map fun _ => 51) = 256 * ((vb t / 4) &&& vb (t.map fun _ => 51)) + ((b / 4) &&& 51) := by
      rw [e1, ← t2_low (vb t % 4) (Nat.mod_lt _ (by decide)) b hb]
      exact and256 _ _ (by omega) (show (51 : Nat) < 256 by decide)
    have e3 : vb (b :: t) &&& vb ((b :: t).map fun _ => 51) = 256 * (vb t &&& vb (t.map fun _ => 51)) + (b &&& 51) := and256 _ _ hb (show (51 : Nat) < 256 by decide)
    rw [e2, e3]
    show _ = 256 * vb (t.map t2) + t2 b
    rw [← i2, show t2 b = (b &&& 51) + ((b / 4) &&& 51) from rfl]
    omega
theorem vb_low : ∀ (bs : List Nat), (∀ b ∈ bs, b % 16 ≤ 4 ∧ b < 69) → vb bs % 16 ≤ 4
  | [], _ => by decide
  | b :: t, h => by
    have hb := h b List.mem_cons_self
    show (256 * vb t + b) % 16 ≤ 4
    omega
theorem vb_s3 : ∀ (bs : List Nat), (∀ b ∈ bs, b % 16 ≤ 4 ∧ b < 69) → (vb bs + vb bs / 16) &&& vb (bs.map fun _ => 15) = vb (bs.map t3)
  | [], _ => rfl
  | b :: t, h => by
    have hb := h b List.mem_cons_self
    have ht : ∀ x ∈ t, x % 16 ≤ 4 ∧ x < 69 := fun x hx => h x (List.mem_cons_of_mem _ hx)
    have i2 := vb_s3 t ht
    have hl := vb_low t ht
    have e1 : vb (b :: t) + vb (b :: t) / 16 = 256 * (vb t + vb t / 16) + (b + 16 * (vb t % 16) + b / 16) := by
      show 256 * vb t + b + (256 * vb t + b) / 16 = _
      omega
    rw [e1]
    show _ = 256 * vb (t.map t3) + t3 b
    rw [← i2, show t3 b = (b + b / 16) &&& 15 from rfl, ← t3_low (vb t % 16) (by omega) b hb.2]
    exact and256 _ _ (by omega) (show (15 : Nat) < 256 by decide)
theorem cntN_add (P : Nat → Bool) (a : Nat) : ∀ n, cntN P (a + n) = cntN P a + cntN (fun i => P (a + i)) n
  | 0 => rfl
  | n + 1 => by
    have i := cntN_add P a n
    show (if P (a + n) = true then cntN P (a + n) + 1 else cntN P (a + n)) = cntN P a + (if P (a + n) = true then cntN (fun i => P (a + i)) n + 1 else cntN (fun i => P (a + i)) n)
    split <;> omega
theorem vb_bit {b t : Nat} (hb : b < 256) : (∀ i, i < 8 → (256 * t + b).testBit i = b.testBit i) ∧ ∀ i, (256 * t + b).testBit (8 + i) = t.testBit i := by
  constructor
  · intro i hi
    have h : (256 * t + b).testBit i = _ := Nat.testBit_two_pow_mul_add t (b := b) (i := 8) hb i
    rw [if_pos hi] at h
    exact h
  · intro i
    have h : (256 * t + b).testBit (8 + i) = _ := Nat.testBit_two_pow_mul_add t (b := b) (i := 8) hb (8 + i)
    rw [if_neg (by omega), Nat.add_sub_cancel_left] at h
    exact h
theorem vb_cnt : ∀ (bs : List Nat), (∀ b ∈ bs, b < 256) → cntN (fun i => (vb bs).testBit i) (8 * bs.length) = (bs.map fun b => cntN (fun i => b.testBit i) 8).sum
  | [], _ => rfl
  | b :: t, h => by
    have hb : b < 256 := h b List.mem_cons_self
    have i2 := vb_cnt t (fun x hx => h x (List.mem_cons_of_mem _ hx))
    obtain ⟨p1, p2⟩ := vb_bit (t := vb t) hb
    rw [show 8 * (b :: t).length = 8 + 8 * t.length by simp [List.length_cons]; omega, cntN_add]
    show _ = cntN (fun i => b.testBit i) 8 + (t.map fun b => cntN (fun i => b.testBit i) 8).sum
    rw [← i2]
    congr 1
    · exact cntN_congr p1
    · exact cntN_congr (fun i _ => p2 i)
def bc64 (n : Nat) : Nat :=
  let a1 := n - ((n / 2) &&& 6148914691236517205)
  let a2 := (a1 &&& 3689348814741910323) + ((a1 / 4) &&& 3689348814741910323)
  let a3 := (a2 + a2 / 16) &&& 1085102592571150095
  let a4 := a3 + a3 / 256
  let a5 := a4 + a4 / 65536
  let a6 := a5 + a5 / 4294967296
  a6 % 128
theorem bs_1 (d0 d1 d2 d3 d4 d5 d6 d7 : Nat) : d0 + 256 * d1 + 65536 * d2 + 16777216 * d3 + 4294967296 * d4 + 1099511627776 * d5 + 281474976710656 * d6 + 72057594037927936 * d7 = d0 + 256 * (d1 + 256 * d2 + 65536 * d3 + 16777216 * d4 + 4294967296 * d5 + 1099511627776 * d6 + 281474976710656 * d7) := by omega
theorem bs_2 (d0 d1 d2 d3 d4 d5 d6 d7 : Nat) : d0 + 256 * d1 + 65536 * d2 + 16777216 * d3 + 4294967296 * d4 + 1099511627776 * d5 + 281474976710656 * d6 + 72057594037927936 * d7 + (d1 + 256 * d2 + 65536 * d3 + 16777216 * d4 + 4294967296 * d5 + 1099511627776 * d6 + 281474976710656 * d7) = d0 + d1 + 256 * (d1 + d2) + 65536 * (d2 + d3 + 256 * (d3 + d4) + 65536 * (d4 + d5) + 16777216 * (d5 + d6) + 4294967296 * (d6 + d7) + 1099511627776 * d7) := by omega
theorem bs_3 (d0 d1 d2 d3 d4 d5 d6 d7 : Nat) : d0 + d1 + 256 * (d1 + d2) + 65536 * (d2 + d3 + 256 * (d3 + d4) + 65536 * (d4 + d5) + 16777216 * (d5 + d6) + 4294967296 * (d6 + d7) + 1099511627776 * d7) + (d2 + d3 + 256 * (d3 + d4) + 65536 * (d4 + d5) + 16777216 * (d5 + d6) + 4294967296 * (d6 + d7) + 1099511627776 * d7) = d0 + d1 + d2 + d3 + 256 * (d1 + d2 + d3 + d4) + 65536 * (d2 + d3 + d4 + d5) + 16777216 * (d3 + d4 + d5 + d6) + 4294967296 * (d4 + d5 + d6 + d7 + 256 * (d5 + d6 + d7) + 65536 * (d6 + d7) + 16777216 * d7) := by omega
theorem bs_4 (d0 d1 d2 d3 d4 d5 d6 d7 : Nat) : d0 + d1 + d2 + d3 + 256 * (d1 + d2 + d3 + d4) + 65536 * (d2 + d3 + d4 + d5) + 16777216 * (d3 + d4 + d5 + d6) + 4294967296 * (d4 + d5 + d6 + d7 + 256 * (d5 + d6 + d7) + 65536 * (d6 + d7) + 16777216 * d7) + (d4 + d5 + d6 + d7 + 256 * (d5 + d6 + d7) + 65536 * (d6 + d7) + 16777216 * d7) = d0 + (d1 + (d2 + (d3 + (d4 + (d5 + (d6 + (d7 + 0))))))) + 128 * (2 * (d1 + d2 + d3 + d4) + 512 * (d2 + d3 + d4 + d5) + 131072 * (d3 + d4 + d5 + d6) + 33554432 * (d4 + d5 + d6 + d7 + 256 * (d5 + d6 + d7) + 65536 * (d6 + d7) + 16777216 * d7) + (2 * (d5 + d6 + d7) + 512 * (d6 + d7) + 131072 * d7)) := by omega
theorem bs_5 (d0 d1 d2 : Nat) (h0 : d0 ≤ 8) (h1 : d1 ≤ 8) (h2 : d2 ≤ 8) : d0 + d1 + 256 * (d1 + d2) < 65536 := by omega
theorem bs_6 (d0 d1 d2 d3 d4 d5 d6 : Nat) (h0 : d0 ≤ 8) (h1 : d1 ≤ 8) (h2 : d2 ≤ 8) (h3 : d3 ≤ 8) (h4 : d4 ≤ 8) (h5 : d5 ≤ 8) (h6 : d6 ≤ 8) : d0 + d1 + d2 + d3 + 256 * (d1 + d2 + d3 + d4) + 65536 * (d2 + d3 + d4 + d5) + 16777216 * (d3 + d4 + d5 + d6) < 4294967296 := by omega
theorem bs_7 (d0 d1 d2 d3 d4 d5 d6 d7 : Nat) (h0 : d0 ≤ 8) (h1 : d1 ≤ 8) (h2 : d2 ≤ 8) (h3 : d3 ≤ 8) (h4 : d4 ≤ 8) (h5 : d5 ≤ 8) (h6 : d6 ≤ 8) (h7 : d7 ≤ 8) : d0 + (d1 + (d2 + (d3 + (d4 + (d5 + (d6 + (d7 + 0))))))) < 128 := by omega
theorem bs_8 (d0 d1 d2 d3 d4 d5 d6 d7 : Nat) : 256 * (256 * (256 * (256 * (256 * (256 * (256 * (256 * 0 + d7) + d6) + d5) + d4) + d3) + d2) + d1) + d0 = d0 + 256 * d1 + 65536 * d2 + 16777216 * d3 + 4294967296 * d4 + 1099511627776 * d5 + 281474976710656 * d6 + 72057594037927936 * d7 := by omega
theorem bs_d (a b k q : Nat) (hk : 0 < k) (h : a < k) (e : b = a + k * q) : b / k = q := by rw [e, Nat.add_mul_div_left _ _ hk, Nat.div_eq_of_lt h, Nat.zero_add]
theorem bc_sum (d0 d1 d2 d3 d4 d5 d6 d7 : Nat) (h0 : d0 ≤ 8) (h1 : d1 ≤ 8) (h2 : d2 ≤ 8) (h3 : d3 ≤ 8) (h4 : d4 ≤ 8) (h5 : d5 ≤ 8) (h6 : d6 ≤ 8) (h7 : d7 ≤ 8) (X Y Z : Nat) (hX : X = d0 + 256 * d1 + 65536 * d2 + 16777216 * d3 + 4294967296 * d4 + 1099511627776 * d5 + 281474976710656 * d6 + 72057594037927936 * d7) (hY : Y = X + X / 256) (hZ : Z = Y + Y / 65536) : (Z + Z / 4294967296) % 128 = d0 + (d1 + (d2 + (d3 + (d4 + (d5 + (d6 + (d7 + 0))))))) := by
  have f1 : X / 256 = d1 + 256 * d2 + 65536 * d3 + 16777216 * d4 + 4294967296 * d5 + 1099511627776 * d6 + 281474976710656 * d7 := bs_d d0 X 256 _ (by decide) (Nat.lt_of_le_of_lt h0 (by decide)) (hX.trans (bs_1 d0 d1 d2 d3 d4 d5 d6 d7))
  have hY2 : Y = d0 + d1 + 256 * (d1 + d2) + 65536 * (d2 + d3 + 256 * (d3 + d4) + 65536 * (d4 + d5) + 16777216 * (d5 + d6) + 4294967296 * (d6 + d7) + 1099511627776 * d7) := by rw [hY, f1, hX]; exact bs_2 d0 d1 d2 d3 d4 d5 d6 d7
  have f2 : Y / 65536 = d2 + d3 + 256 * (d3 + d4) + 65536 * (d4 + d5) + 16777216 * (d5 + d6) + 4294967296 * (d6 + d7) + 1099511627776 * d7 := bs_d _ Y 65536 _ (by decide) (bs_5 d0 d1 d2 h0 h1 h2) hY2
  have hZ2 : Z = d0 + d1 + d2 + d3 + 256 * (d1 + d2 + d3 + d4) + 65536 * (d2 + d3 + d4 + d5) + 16777216 * (d3 + d4 + d5 + d6) + 4294967296 * (d4 + d5 + d6 + d7 + 256 * (d5 + d6 + d7) + 65536 * (d6 + d7) + 16777216 * d7) := by rw [hZ, f2, hY2]; exact bs_3 d0 d1 d2 d3 d4 d5 d6 d7
  have f3 : Z / 4294967296 = d4 + d5 + d6 + d7 + 256 * (d5 + d6 + d7) + 65536 * (d6 + d7) + 16777216 * d7 := bs_d _ Z 4294967296 _ (by decide) (bs_6 d0 d1 d2 d3 d4 d5 d6 h0 h1 h2 h3 h4 h5 h6) hZ2
  rw [f3, hZ2, bs_4, Nat.add_mul_mod_self_left]
  exact Nat.mod_eq_of_lt (bs_7 d0 d1 d2 d3 d4 d5 d6 d7 h0 h1 h2 h3 h4 h5 h6 h7)
theorem bc64_eq (n : Nat) (hn : n < 2 ^ 64) : bc64 n = cntN (fun i => n.testBit i) 64 := by
  obtain ⟨bs, hbs⟩ : ∃ bs : List Nat, bs = [n % 256, n / 256 % 256, n / 65536 % 256, n / 16777216 % 256, n / 4294967296 % 256, n / 1099511627776 % 256, n / 281474976710656 % 256, n / 72057594037927936 % 256] := ⟨_, rfl⟩
  have hv : vb bs = n := by
    rw [hbs]
    simp only [vb]
    omega
  have hb : ∀ b ∈ bs, b < 256 := by
    intro b h
    rw [hbs] at h
    simp only [List.mem_cons, List.not_mem_nil, or_false] at h
    omega
  have hm1 : vb (bs.map fun _ => 85) = 6148914691236517205 := by rw [hbs]; simp only [List.map_cons, List.map_nil, vb]
  have hm2 : vb ((bs.map t1).map fun _ => 51) = 3689348814741910323 := by rw [hbs]; simp only [List.map_cons, List.map_nil, vb]
  have hm3 : vb (((bs.map t1).map t2).map fun _ => 15) = 1085102592571150095 := by rw [hbs]; simp only [List.map_cons, List.map_nil, vb]
  have s1 := (vb_s1 bs hb).2
  have hb1 : ∀ b ∈ bs.map t1, b < 256 := by
    intro b h
    obtain ⟨x, hx, rfl⟩ := List.mem_map.mp h
    exact (t2_ok x (hb x hx)).2.2
  have s2 := vb_s2 (bs.map t1) hb1
  have hb2 : ∀ b ∈ (bs.map t1).map t2, b % 16 ≤ 4 ∧ b < 69 := by
    intro b h
    obtain ⟨y, hy, rfl⟩ := List.mem_map.mp h
    obtain ⟨x, hx, rfl⟩ := List.mem_map.mp hy
    exact ⟨(t2_ok x (hb x hx)).1, (t2_ok x (hb x hx)).2.1⟩
  have s3 := vb_s3 ((bs.map t1).map t2) hb2
  rw [hm1, hv] at s1
  rw [hm2] at s2
  rw [hm3] at s3
  have hc := vb_cnt bs hb
  rw [hv, show 8 * bs.length = 64 by rw [hbs]; rfl] at hc
  have hs : (bs.map fun b => cntN (fun i => b.testBit i) 8) = ((bs.map t1).map t2).map t3 := by
    rw [List.map_map, List.map_map]
    exact List.map_congr_left (fun x hx => ((t3_ok x (hb x hx)).1).symm)
  rw [hs] at hc
  have hle : ∀ b ∈ ((bs.map t1).map t2).map t3, b ≤ 8 := by
    intro b h
    obtain ⟨y, hy, rfl⟩ := List.mem_map.mp h
    obtain ⟨z, hz, rfl⟩ := List.mem_map.mp hy
    obtain ⟨x, hx, rfl⟩ := List.mem_map.mp hz
    exact (t3_ok x (hb x hx)).2
  rw [hc]
  unfold bc64
  simp only [s1, s2, s3]
  rw [hbs] at hle ⊢
  simp only [List.map_cons, List.map_nil, List.mem_cons, List.not_mem_nil, or_false, forall_eq_or_imp, forall_eq] at hle
  simp only [List.map_cons, List.map_nil, vb, List.sum_cons, List.sum_nil]
  obtain ⟨h0, h1, h2, h3, h4, h5, h6, h7⟩ := hle
  generalize t3 (t2 (t1 (n % 256))) = d0 at *
  generalize t3 (t2 (t1 (n / 256 % 256))) = d1 at *
  generalize t3 (t2 (t1 (n / 65536 % 256))) = d2 at *
  generalize t3 (t2 (t1 (n / 16777216 % 256))) = d3 at *
  generalize t3 (t2 (t1 (n / 4294967296 % 256))) = d4 at *
  generalize t3 (t2 (t1 (n / 1099511627776 % 256))) = d5 at *
  generalize t3 (t2 (t1 (n / 281474976710656 % 256))) = d6 at *
  generalize t3 (t2 (t1 (n / 72057594037927936 % 256))) = d7 at *
  clear hbs hv hb hm1 hm2 hm3 s1 s2 s3 hb1 hb2 hc hs
  exact bc_sum d0 d1 d2 d3 d4 d5 d6 d7 h0 h1 h2 h3 h4 h5 h6 h7 _ _ _ (bs_8 d0 d1 d2 d3 d4 d5 d6 d7) rfl rfl
theorem bc_eq (x y1 y2 y3 y4 y5 y6 : Int64)
    (e1 : y1 = x - ((x.toUInt64 >>> ((1 : Int32).toInt64.toUInt64 &&& Int64.toUInt64 63)).toInt64 &&& 6148914691236517205))
    (e2 : y2 = (y1 &&& 3689348814741910323) + ((y1.toUInt64 >>> ((2 : Int32).toInt64.toUInt64 &&& Int64.toUInt64 63)).toInt64 &&& 3689348814741910323))
    (e3 : y3 = (y2 + (y2.toUInt64 >>> ((4 : Int32).toInt64.toUInt64 &&& Int64.toUInt64 63)).toInt64) &&& 1085102592571150095)
    (e4 : y4 = y3 + (y3.toUInt64 >>> ((8 : Int32).toInt64.toUInt64 &&& Int64.toUInt64 63)).toInt64)
    (e5 : y5 = y4 + (y4.toUInt64 >>> ((16 : Int32).toInt64.toUInt64 &&& Int64.toUInt64 63)).toInt64)
    (e6 : y6 = y5 + (y5.toUInt64 >>> ((32 : Int32).toInt64.toUInt64 &&& Int64.toUInt64 63)).toInt64) :
    y6.toInt32 &&& 127 = nI (cntN (fun i => x.toBitVec.toNat.testBit i) 64) := by
  obtain ⟨n, hn, rfl⟩ := wb_of x
  obtain ⟨a1, h1⟩ : ∃ a1, a1 = n - ((n / 2) &&& 6148914691236517205) := ⟨_, rfl⟩
  obtain ⟨a2, h2⟩ : ∃ a2, a2 = (a1 &&& 3689348814741910323) + ((a1 / 4) &&& 3689348814741910323) := ⟨_, rfl⟩
  obtain ⟨a3, h3⟩ : ∃ a3, a3 = (a2 + a2 / 16) &&& 1085102592571150095 := ⟨_, rfl⟩
  obtain ⟨a4, h4⟩ : ∃ a4, a4 = a3 + a3 / 256 := ⟨_, rfl⟩
  obtain ⟨a5, h5⟩ : ∃ a5, a5 = a4 + a4 / 65536 := ⟨_, rfl⟩
  obtain ⟨a6, h6⟩ : ∃ a6, a6 = a5 + a5 / 4294967296 := ⟨_, rfl⟩
  have q1 : (n / 2) &&& 6148914691236517205 ≤ n / 2 := Nat.and_le_left
  have q2 : a1 &&& 3689348814741910323 ≤ 3689348814741910323 := Nat.and_le_right
  have q3 : (a1 / 4) &&& 3689348814741910323 ≤ 3689348814741910323 := Nat.and_le_right
  have q4 : a3 ≤ 1085102592571150095 := by rw [h3]; exact Nat.and_le_right
  have hp : (2 : Nat) ^ 64 = 18446744073709551616 := by decide
  rw [hp] at hn
  have s1 : ((lN n).toUInt64 >>> ((1 : Int32).toInt64.toUInt64 &&& Int64.toUInt64 63)).toInt64 = lN (n / 2) := wb_shr (k := 1) (by rw [hp]; omega) (by decide)
  have t1 : lN (n / 2) &&& 6148914691236517205 = lN ((n / 2) &&& 6148914691236517205) := wb_and (b := 6148914691236517205) (by rw [hp]; omega) (by decide)
  have d1 : y1 = lN a1 := by rw [e1, s1, t1, lN_sub (by omega), ← h1]
  have s2 : ((lN a1).toUInt64 >>> ((2 : Int32).toInt64.toUInt64 &&& Int64.toUInt64 63)).toInt64 = lN (a1 / 4) := wb_shr (k := 2) (by rw [hp]; omega) (by decide)
  have t2 : lN (a1 / 4) &&& 3689348814741910323 = lN ((a1 / 4) &&& 3689348814741910323) := wb_and (b := 3689348814741910323) (by rw [hp]; omega) (by decide)
  have t2' : lN a1 &&& 3689348814741910323 = lN (a1 &&& 3689348814741910323) := wb_and (b := 3689348814741910323) (by rw [hp]; omega) (by decide)
  have d2 : y2 = lN a2 := by rw [e2, d1, s2, t2, t2', lN_add, ← h2]
  have s3 : ((lN a2).toUInt64 >>> ((4 : Int32).toInt64.toUInt64 &&& Int64.toUInt64 63)).toInt64 = lN (a2 / 16) := wb_shr (k := 4) (by rw [hp]; omega) (by decide)
  have t3 : lN (a2 + a2 / 16) &&& 1085102592571150095 = lN ((a2 + a2 / 16) &&& 1085102592571150095) := wb_and (b := 1085102592571150095) (by rw [hp]; omega) (by decide)
  have d3 : y3 = lN a3 := by rw [e3, d2, s3, lN_add, t3, ← h3]
  have s4 : ((lN a3).toUInt64 >>> ((8 : Int32).toInt64.toUInt64 &&& Int64.toUInt64 63)).toInt64 = lN (a3 / 256) := wb_shr (k := 8) (by rw [hp]; omega) (by decide)
  have d4 : y4 = lN a4 := by rw [e4, d3, s4, lN_add, ← h4]
  have s5 : ((lN a4).toUInt64 >>> ((16 : Int32).toInt64.toUInt64 &&& Int64.toUInt64 63)).toInt64 = lN (a4 / 65536) := wb_shr (k := 16) (by rw [hp]; omega) (by decide)
  have d5 : y5 = lN a5 := by rw [e5, d4, s5, lN_add, ← h5]
  have s6 : ((lN a5).toUInt64 >>> ((32 : Int32).toInt64.toUInt64 &&& Int64.toUInt64 63)).toInt64 = lN (a5 / 4294967296) := wb_shr (k := 32) (by rw [hp]; omega) (by decide)
  have d6 : y6 = lN a6 := by rw [e6, d5, s6, lN_add, ← h6]
  have hbc : a6 % 128 = bc64 n := by
    unfold bc64
    simp only []
    rw [← h1, ← h2, ← h3, ← h4, ← h5, ← h6]
  have hand : nI a6 &&& 127 = nI (a6 % 128) := by
    rw [pk_and (nI a6) 7 (m := 127) (by decide)]
    have e9 : (nI a6).toBitVec.toNat = a6 % 2 ^ 32 := rfl
    rw [e9, show (2 : Nat) ^ 32 = 4294967296 by decide, show (2 : Nat) ^ 7 = 128 by decide]
    congr 1
    omega
  rw [d6, lN_i, hand, hbc, bc64_eq n (by rw [hp]; exact hn), wb_tn (by rw [hp]; exact hn)]
end
section
/-! The component's own words -/
def up (g : Nat → Nat → Int32) (a k : Nat) (x : Int32) : Nat → Nat → Int32 := fun j => if j = a then upd (g a) k x else g j
def ix (x : Int32) : Nat := x.toNatClampNeg
theorem ix_nI {k : Nat} (h : k < 2 ^ 31) : ix (nI k) = k := nI_clamp h
def isCallS (x : Int32) : Bool := if x < 0 then false else if 4 ≤ x then false else true
def isNumS (x : Int32) : Bool := if x < 0 then false else if 99999999 < x then false else true
def isWtS (x : Int32) : Bool := if x < 0 then false else if 1000000 < x then false else true
def isHoS (x : Int32) : Bool := if x < 0 then false else if 10 ≤ x then false else true
/-- areAlike, on numbers -/
def alkE (a b : Nat) : Bool := if a / 10 = b / 10 then true else if a % 10 = b / 10 % 10 then (if a / 10 % 10 = b % 10 then (if a / 100 = b / 100 then true else false) else false) else false
def alkL : Nat → Nat → Nat → Bool
  | 0, a, b => alkE a b
  | f + 1, a, b => if a % 10 = b % 10 then alkL f (a / 10) (b / 10) else alkE a b
def ordB (g : Nat → Nat → Int32) (k : Nat) : Bool := if g 8 k ≤ 0 then false else true
def takB (g : Nat → Nat → Int32) (nb : Nat) (c w : Int32) : Bool := anyN (fun k => decide (g 2 k = c) && decide (g 3 k = w)) nb
def takX (g : Nat → Nat → Int32) (nx : Nat) (c w : Int32) : Bool := anyN (fun k => decide (g 16 k = c) && decide (g 17 k = w)) nx
def msu (g : Nat → Nat → Int32) (nb : Nat) (c o : Int32) : Bool :=
  if o = -1 then true else if inN nb o = true then (if g 2 (ix o) = c then (if 4 ≤ g 5 (ix o) then false else if ordB g (ix o) = true then false else true) else false) else false
def addB (g : Nat → Nat → Int32) (nb : Nat) (a1 a2 a3 a4 : Int32) : Nat → Nat → Int32 :=
  up (up (up (up (up (up (up g 2 nb a1) 3 nb a2) 4 nb a3) 5 nb (if inN nb a3 = true then g 5 (ix a3) + 1 else 1)) 6 nb (if inN nb a3 = true then g 6 (ix a3) else nI nb)) 7 nb a4) 8 nb 0
def nfnL (g : Nat → Nat → Int32) (nb k : Nat) : Nat → Nat → Int32
  | 0, _ => -1
  | f + 1, j => if g 3 k + nI j ≤ 99999999 then (if takB g nb (g 2 k) (g 3 k + nI j) = true then nfnL g nb k f (j + 1) else g 3 k + nI j) else -1
def undB (g : Nat → Nat → Int32) (nb : Nat) (x : Int32) : Nat := cntN (fun k => decide (g 4 k = x)) nb
def addN (g : Nat → Nat → Int32) (nl k : Nat) (w q : Int32) : Nat → Nat → Int32 :=
  up (up (up (up (up g 10 nl (nI k)) 11 nl w) 13 k (g 13 k + w)) 14 k (g 14 k + q)) 12 k (g 12 k + 1)
def rowN (g : Nat → Nat → Int32) (nl : Nat) (x line : Int32) : Int32 := pickN (fun k => decide (g 10 k = x)) line nl
def chgN (g : Nat → Nat → Int32) (i : Nat) (nw : Int32) (j : Nat) : Nat → Nat → Int32 := up (up g 11 i nw) 13 j (g 13 j + (nw - g 11 i))
def takN (k : Nat) : Nat → Int32 → (Nat → Nat → Int32) → Nat → Nat → Int32
  | 0, _, g => g
  | r + 1, left, g => if left ≤ 0 then g else if g 10 r = nI k then takN k r (left - (if g 11 r < left then g 11 r else left)) (chgN g r (g 11 r - (if g 11 r < left then g 11 r else left)) k) else takN k r left g
def addX (g : Nat → Nat → Int32) (nx : Nat) (c n w : Int32) : Nat → Nat → Int32 :=
  up (up (up (up (up (up (up g 16 nx c) 17 nx n) 18 nx w) 19 nx (-1)) 21 nx (-1)) 22 nx (-1)) 23 nx (-1)
def bitM (x : Int32) : Int64 := (1 : Int64) <<< (x.toInt64 &&& 63)
def onX (z : Nat → Int64) (k : Nat) (x : Int32) : Bool := if lg_cmp (z k &&& bitM x) 0 = 0 then false else true
def popc (x : Int64) : Nat := cntN (fun i => x.toBitVec.toNat.testBit i) 64
def lanX (g : Nat → Nat → Int32) (k : Nat) : Bool := if g 19 k = -1 then false else true
def ordX (g : Nat → Nat → Int32) (k : Nat) : Bool := if g 21 k = -1 then false else true
def waiX (g : Nat → Nat → Int32) (z : Nat → Int64) (k : Nat) : Bool := if lanX g k = true then (if lg_cmp (z k) 0 = 0 then true else false) else false
def shaX (g : Nat → Nat → Int32) (z : Nat → Int64) (k : Nat) (x : Int32) : Int32 :=
  if nI (popc (z k)) = 0 then 0 else g 19 k / nI (popc (z k)) + (if g 19 k - g 19 k / nI (popc (z k)) * nI (popc (z k)) ≤ nI (popc (z k &&& (bitM x - 1))) then 0 else 1)
def lnoX (g : Nat → Nat → Int32) (z : Nat → Int64) (nx : Nat) (x : Int32) : Int32 := sumN (fun k => if onX z k x = true then (if lanX g k = true then shaX g z k x else 0) else 0) nx
def firL (g : Nat → Nat → Int32) (nx : Nat) : Nat → Nat → Nat
  | 0, f => f
  | n + 1, f => if inN nx (g 23 f) = true then firL g nx n (ix (g 23 f)) else f
def wsfL (g : Nat → Nat → Int32) (nx : Nat) : Nat → Nat → Int32 → Int32
  | 0, _, sm => sm
  | n + 1, f, sm => if inN nx (g 23 f) = true then wsfL g nx n (ix (g 23 f)) (sm + g 18 (ix (g 23 f))) else sm
def arrS (v : Nat → Int32) (x : Int32) : Bool := if v 0 &&& ((1 : Int32) <<< (x &&& 31)) = 0 then false else true
def difB (g : Nat → Nat → Int32) (nb k : Nat) : Int32 :=
  if cntN (fun o => decide (g 4 o = nI k)) nb = 0 then 0 else g 13 k - sumN (fun o => if g 4 o = nI k then g 13 o else 0) nb
def sodB (g : Nat → Nat → Int32) (nb : Nat) (x : Int32) : Bool := anyN (fun b => decide (g 6 b = x) && !decide (difB g nb b = 0)) nb
def mtdB (g : Nat → Nat → Int32) (nb : Nat) : Nat := cntN (fun b => decide (g 6 b = nI b) && sodB g nb (nI b)) nb
def rwI (r : Nat) : Int32 := nI r - 1
theorem rwI_dec (q : Nat) : nI q + Int32.ofInt (-1) = rwI q := by
  unfold rwI
  rw [Int32.sub_eq_add_neg]
  rfl
theorem rwI_s (q : Nat) : rwI (q + 1) = nI q := nI_pred q
theorem rwI_neg {r : Nat} (hr : r < 2 ^ 31) (h : rwI r < 0) : r = 0 := by
  rcases r with _ | r
  · rfl
  · rw [rwI_s] at h
    exact absurd h (nI_pos (by omega))
theorem rwI_pos {r : Nat} (h : ¬ rwI r < 0) : ∃ q, r = q + 1 := by
  rcases r with _ | r
  · exact absurd (by decide) h
  · exact ⟨r, rfl⟩
theorem pickN_some {P : Nat → Bool} {x : Int32} : ∀ {n : Nat}, ¬ pickN P x n = -1 → ∃ i, i < n ∧ P i = true ∧ nI (cntN P i) = x ∧ pickN P x n = nI i
  | 0, h => absurd rfl h
  | n + 1, h => by
    by_cases h1 : pickN P x n = -1
    · have h2 : pickN P x (n + 1) = (if P n = true then (if nI (cntN P n) = x then nI n else -1) else -1) := by
        show (if pickN P x n = -1 then (if P n = true then (if nI (cntN P n) = x then nI n else -1) else -1) else pickN P x n) = _
        rw [if_pos h1]
      rw [h2] at h ⊢
      by_cases h3 : P n = true
      · rw [if_pos h3] at h ⊢
        by_cases h4 : nI (cntN P n) = x
        · rw [if_pos h4]
          exact ⟨n, Nat.lt_succ_self n, h3, h4, rfl⟩
        · rw [if_neg h4] at h
          exact absurd rfl h
      · rw [if_neg h3] at h
        exact absurd rfl h
    · obtain ⟨i, a, b, c, d⟩ := pickN_some h1
      refine ⟨i, Nat.lt_succ_of_lt a, b, c, ?_⟩
      show (if pickN P x n = -1 then (if P n = true then (if nI (cntN P n) = x then nI n else -1) else -1) else pickN P x n) = _
      rw [if_neg h1, d]
theorem popc_le (x : Int64) : popc x ≤ 64 := cntN_le _ _
theorem firL_lt {g : Nat → Nat → Int32} {nx : Nat} (hn : nx ≤ 60) : ∀ (n f : Nat), f < 60 → firL g nx n f < 60
  | 0, f, h => h
  | n + 1, f, h => by
    show (if inN nx (g 23 f) = true then firL g nx n (ix (g 23 f)) else f) < 60
    split
    · rename_i h1
      obtain ⟨q, hq, e⟩ := inN_ix h1 (by omega)
      rw [e, ix_nI (by omega)]
      exact firL_lt hn n q (by omega)
    · exact h
/-! what the public methods answer and do -/
def onR (g : Nat → Nat → Int32) (z : Nat → Int64) (nb nx : Nat) (x y : Int32) : Bool :=
  if inN nx x = true then (if inN nb y = true then (if g 16 (ix x) = g 2 (ix y) then (if onX z (ix x) y = true then false else if 4 ≤ popc (z (ix x)) then false else if ordX g (ix x) = true then false else true) else false) else false) else false
def onZ (g : Nat → Nat → Int32) (z : Nat → Int64) (nb nx : Nat) (x y : Int32) : Nat → Int64 :=
  if onR g z nb nx x y = true then vp_updL z (ix x) (z (ix x) ||| bitM y) else z
def lanR (g : Nat → Nat → Int32) (nx : Nat) (x w : Int32) : Bool := if inN nx x = true then (if lanX g (ix x) = true then false else if isWtS w = true then true else false) else false
def lanG (g : Nat → Nat → Int32) (nx : Nat) (x w : Int32) : Nat → Nat → Int32 := if lanR g nx x w = true then up g 19 (ix x) w else g
def arrR (v : Nat → Int32) (x : Int32) : Bool := if isCallS x = true then (if arrS v x = true then false else true) else false
def arvV (v : Nat → Int32) (x : Int32) : Nat → Int32 := if arrR v x = true then upd v 0 (v 0 ||| ((1 : Int32) <<< (x &&& 31))) else v
def legR (g : Nat → Nat → Int32) (nx : Nat) (x y : Int32) : Bool :=
  if inN nx x = true then (if inN nx y = true then (if g 16 (ix x) = g 16 (ix y) then false else if g 22 (ix x) = -1 then (if g 23 (ix y) = -1 then (if firL g nx 60 (ix x) = ix y then false else true) else false) else false) else false) else false
def legG (g : Nat → Nat → Int32) (nx : Nat) (x y : Int32) : Nat → Nat → Int32 := if legR g nx x y = true then up (up g 22 (ix x) y) 23 (ix y) x else g
def cntS (g : Nat → Nat → Int32) (z : Nat → Int64) (v : Nat → Int32) (nb nl nx : Nat) : Nat → Int32
  | 0 => nI nb
  | 1 => nI nx
  | 2 => nI nl
  | 3 => v 1
  | 4 => nI (cntN (fun k => ordX g k) nx)
  | 5 => nI (cntN (fun k => lanX g k) nx)
  | 6 => nI (cntN (fun k => waiX g z k) nx)
  | 7 => v 0
  | _ => nI (mtdB g nb)
def bilR (g : Nat → Nat → Int32) (nb : Nat) (c n a : Int32) : Bool := if msu g nb c a = true then (if takB g nb c n = true then false else true) else false
def amdR (g : Nat → Nat → Int32) (v : Nat → Int32) (i k : Nat) (w : Int32) : Int32 :=
  if w - g 11 i = 0 then 0 else if arrS v (g 2 k) = true then 100 + (if 0 ≤ w - g 11 i then w - g 11 i else 0 - (w - g 11 i)) / 1000 else 0
def amdV (g : Nat → Nat → Int32) (v : Nat → Int32) (i k : Nat) (w : Int32) : Nat → Int32 :=
  if w - g 11 i = 0 then v else if arrS v (g 2 k) = true then upd v 1 (v 1 + (100 + (if 0 ≤ w - g 11 i then w - g 11 i else 0 - (w - g 11 i)) / 1000)) else v
def titR (g : Nat → Nat → Int32) (k : Nat) (f : Int32) : Bool := if g 7 k = f then (if ordB g k = true then false else true) else false
def ordR (g : Nat → Nat → Int32) (z : Nat → Int64) (k j : Nat) (h : Int32) : Bool :=
  if ordX g j = true then false else if onX z j (nI k) = true then (if lanX g j = true then (if g 7 k = h then true else false) else false) else false
def splR (g : Nat → Nat → Int32) (nb k : Nat) (w : Int32) : Bool :=
  if g 13 k ≤ w then false else if 0 < undB g nb (nI k) then false else if ordB g k = true then false else if nfnL g nb k 60 1 = -1 then false else true
def splG (g : Nat → Nat → Int32) (nb nl k : Nat) (w : Int32) : Nat → Nat → Int32 :=
  addN (addB (takN k nl w g) nb (g 2 k) (nfnL g nb k 60 1) (g 4 k) (g 7 k)) nl nb w 0
def looS (g : Nat → Nat → Int32) (z : Nat → Int64) (nb nx j : Nat) : Nat → Int32
  | 0 => g 2 j
  | 1 => g 3 j
  | 2 => g 4 j
  | 3 => g 5 j
  | 4 => g 12 j
  | 5 => g 13 j
  | 6 => g 14 j
  | 7 => difB g nb j
  | 8 => lnoX g z nx (nI j)
  | 9 => if g 13 j - lnoX g z nx (nI j) < 0 then 0 else g 13 j - lnoX g z nx (nI j)
  | 10 => if lnoX g z nx (nI j) - g 13 j < 0 then 0 else lnoX g z nx (nI j) - g 13 j
  | 11 => g 7 j
  | 12 => g 8 j
  | 13 => nI (undB g nb (nI j))
  | 14 => nI (cntN (fun k => onX z k (nI j)) nx)
  | _ => g 6 j
def seeS (g : Nat → Nat → Int32) (z : Nat → Int64) (nx j : Nat) : Nat → Int32
  | 0 => g 16 j
  | 1 => g 17 j
  | 2 => g 18 j
  | 3 => g 19 j
  | 4 => nI (popc (z j))
  | 5 => bI (waiX g z j)
  | 6 => g 21 j
  | 7 => g 22 j
  | 8 => nI (firL g nx 60 j)
  | 9 => wsfL g nx 60 j (g 18 j)
  | n + 10 => pickN (fun b => onX z j (nI b)) (nI n) 60
def likP (g : Nat → Nat → Int32) (c : Int32) (n0 : Nat) (b : Nat) : Bool := decide (g 2 b = c) && alkL 8 (ix (g 3 b)) n0
def wA (ad : Nat → Nat) (kd : Nat → ClassId) (g : Nat → Nat → Int32) (z : Nat → Int64) (v : Nat → Int32) : va_W := [(ad 0, .inr (0, [.ref (ad 1), .ref (ad 9), .ref (ad 15), .int (v 0), .int (v 1)])),
  (ad 1, .inr (1, [.int (v 2), .ref (ad 2), .ref (ad 3), .ref (ad 4), .ref (ad 5), .ref (ad 6), .ref (ad 7), .ref (ad 8)])),
  (ad 2, .inl (kd 2, 60, .inl (g 2))),
  (ad 3, .inl (kd 3, 60, .inl (g 3))),
  (ad 4, .inl (kd 4, 60, .inl (g 4))),
  (ad 5, .inl (kd 5, 60, .inl (g 5))),
  (ad 6, .inl (kd 6, 60, .inl (g 6))),
  (ad 7, .inl (kd 7, 60, .inl (g 7))),
  (ad 8, .inl (kd 8, 60, .inl (g 8))),
  (ad 9, .inr (2, [.int (v 3), .ref (ad 10), .ref (ad 11), .ref (ad 12), .ref (ad 13), .ref (ad 14)])),
  (ad 10, .inl (kd 10, 200, .inl (g 10))),
  (ad 11, .inl (kd 11, 200, .inl (g 11))),
  (ad 12, .inl (kd 12, 60, .inl (g 12))),
  (ad 13, .inl (kd 13, 60, .inl (g 13))),
  (ad 14, .inl (kd 14, 60, .inl (g 14))),
  (ad 15, .inr (3, [.int (v 4), .ref (ad 16), .ref (ad 17), .ref (ad 18), .ref (ad 19), .ref (ad 20), .ref (ad 21), .ref (ad 22), .ref (ad 23)])),
  (ad 16, .inl (kd 16, 60, .inl (g 16))),
  (ad 17, .inl (kd 17, 60, .inl (g 17))),
  (ad 18, .inl (kd 18, 60, .inl (g 18))),
  (ad 19, .inl (kd 19, 60, .inl (g 19))),
  (ad 20, .inl (kd 20, 60, .inr (.inl z))),
  (ad 21, .inl (kd 21, 60, .inl (g 21))),
  (ad 22, .inl (kd 22, 60, .inl (g 22))),
  (ad 23, .inl (kd 23, 60, .inl (g 23)))]
def tA (kd : Nat → ClassId) : List (ClassId × FieldType) := [(kd 2, .int), (kd 3, .int), (kd 4, .int), (kd 5, .int), (kd 6, .int), (kd 7, .int), (kd 8, .int), (kd 10, .int), (kd 11, .int), (kd 12, .int), (kd 13, .int), (kd 14, .int), (kd 16, .int), (kd 17, .int), (kd 18, .int), (kd 19, .int), (kd 20, .long), (kd 21, .int), (kd 22, .int), (kd 23, .int)]
theorem wA_fst (ad : Nat → Nat) (kd : Nat → ClassId) (g g2 : Nat → Nat → Int32) (z z2 : Nat → Int64) (v v2 : Nat → Int32) : (wA ad kd g z v).map (·.1) = (wA ad kd g2 z2 v2).map (·.1) := rfl
theorem D_fst {A : Nat → Prop} {w w2 : va_W} (e : w2.map (·.1) = w.map (·.1)) (h : va_D A w) : va_D A w2 := by
  have key : ∀ (k : Nat) (q : Nat × va_E), w2[k]? = some q → ∃ q2 : Nat × va_E, w[k]? = some q2 ∧ q2.1 = q.1 := by
    intro k q hq
    have h1 : (w2.map (·.1))[k]? = some q.1 := by rw [List.getElem?_map, hq]; rfl
    rw [e, List.getElem?_map] at h1
    cases hk : w[k]? with
    | none => rw [hk] at h1; cases h1
    | some q2 => rw [hk] at h1; exact ⟨q2, rfl, Option.some.inj h1⟩
  refine ⟨fun i j p q hp hq hpq => ?_, fun k q hq => ?_⟩
  · obtain ⟨p2, a1, a2⟩ := key i p hp
    obtain ⟨q2, b1, b2⟩ := key j q hq
    exact h.1 i j p2 q2 a1 b1 (by rw [a2, b2, hpq])
  · obtain ⟨q2, b1, b2⟩ := key k q hq
    rw [← b2]
    exact h.2 k q2 b1
theorem wA_D {A : Nat → Prop} {ad : Nat → Nat} {kd : Nat → ClassId} {g g2 : Nat → Nat → Int32} {z z2 : Nat → Int64} {v v2 : Nat → Int32} (h : va_D A (wA ad kd g z v)) : va_D A (wA ad kd g2 z2 v2) := D_fst (wA_fst ad kd g2 g z2 z v2 v) h
end
section
theorem mw_0 : Cond.selects "BillMatch" (⟨"BillMatch", "hasArrived", "(I)Z"⟩ : MethodName) (⟨"BillMatch", "hasArrived", "(I)Z"⟩ : MethodName) ∈ TB := tb_in (i := 0) (by decide +kernel) (by decide +kernel)
theorem mw_1 : Cond.selects "BillMatch" (⟨"BillMatch", "mastersThatDiffer", "()I"⟩ : MethodName) (⟨"BillMatch", "mastersThatDiffer", "()I"⟩ : MethodName) ∈ TB := tb_in (i := 1) (by decide +kernel) (by decide +kernel)
theorem mw_2 : Cond.selects "BillMatch" (⟨"BillMatch", "someOneDiffers", "(I)Z"⟩ : MethodName) (⟨"BillMatch", "someOneDiffers", "(I)Z"⟩ : MethodName) ∈ TB := tb_in (i := 2) (by decide +kernel) (by decide +kernel)
theorem mw_3 : Cond.selects "BillMatch" (⟨"BillMatch", "difference", "(I)I"⟩ : MethodName) (⟨"BillMatch", "difference", "(I)I"⟩ : MethodName) ∈ TB := tb_in (i := 3) (by decide +kernel) (by decide +kernel)
theorem mw_4 : Cond.selects "java/lang/Throwable" (⟨"java/lang/Throwable", "fillInStackTrace", "(I)Ljava/lang/Throwable;"⟩ : MethodName) (⟨"java/lang/Throwable", "fillInStackTrace", "(I)Ljava/lang/Throwable;"⟩ : MethodName) ∈ TB := tb_in (i := 4) (by decide +kernel) (by decide +kernel)
theorem mw_5 : Cond.selects "BillMatchModel" (⟨"BillMatchModel", "numbered", "(II)I"⟩ : MethodName) (⟨"BillMatchModel", "numbered", "(II)I"⟩ : MethodName) ∈ TB := tb_in (i := 5) (by decide +kernel) (by decide +kernel)
theorem mw_6 : Cond.selects "BillMatchModel" (⟨"BillMatchModel", "isBill", "(I)Z"⟩ : MethodName) (⟨"BillMatchModel", "isBill", "(I)Z"⟩ : MethodName) ∈ TB := tb_in (i := 6) (by decide +kernel) (by decide +kernel)
theorem mw_7 : Cond.selects "BillMatchModel" (⟨"BillMatchModel", "depthOf", "(I)I"⟩ : MethodName) (⟨"BillMatchModel", "depthOf", "(I)I"⟩ : MethodName) ∈ TB := tb_in (i := 7) (by decide +kernel) (by decide +kernel)
theorem mw_8 : Cond.selects "BillMatchModel" (⟨"BillMatchModel", "make", "(III)I"⟩ : MethodName) (⟨"BillMatchModel", "make", "(III)I"⟩ : MethodName) ∈ TB := tb_in (i := 8) (by decide +kernel) (by decide +kernel)
theorem mw_9 : Cond.selects "BillMatchModel" (⟨"BillMatchModel", "add", "(III)I"⟩ : MethodName) (⟨"BillMatchModel", "add", "(III)I"⟩ : MethodName) ∈ TB := tb_in (i := 9) (by decide +kernel) (by decide +kernel)
theorem mw_10 : Cond.selects "BillMatchModel" (⟨"BillMatchModel", "linesOf", "(I)I"⟩ : MethodName) (⟨"BillMatchModel", "linesOf", "(I)I"⟩ : MethodName) ∈ TB := tb_in (i := 10) (by decide +kernel) (by decide +kernel)
theorem mw_11 : Cond.selects "BillMatchModel" (⟨"BillMatchModel", "isBox", "(I)Z"⟩ : MethodName) (⟨"BillMatchModel", "isBox", "(I)Z"⟩ : MethodName) ∈ TB := tb_in (i := 11) (by decide +kernel) (by decide +kernel)
theorem mw_12 : Cond.selects "BillMatchModel" (⟨"BillMatchModel", "stands", "(II)Z"⟩ : MethodName) (⟨"BillMatchModel", "stands", "(II)Z"⟩ : MethodName) ∈ TB := tb_in (i := 12) (by decide +kernel) (by decide +kernel)
theorem mw_13 : Cond.selects "BillMatchModel" (⟨"BillMatchModel", "billsOf", "(I)I"⟩ : MethodName) (⟨"BillMatchModel", "billsOf", "(I)I"⟩ : MethodName) ∈ TB := tb_in (i := 13) (by decide +kernel) (by decide +kernel)
theorem mw_14 : Cond.selects "BillMatchModel" (⟨"BillMatchModel", "lineAt", "(II)I"⟩ : MethodName) (⟨"BillMatchModel", "lineAt", "(II)I"⟩ : MethodName) ∈ TB := tb_in (i := 14) (by decide +kernel) (by decide +kernel)
theorem mw_15 : Cond.selects "BillMatchModel" (⟨"BillMatchModel", "weightOf", "(I)I"⟩ : MethodName) (⟨"BillMatchModel", "weightOf", "(I)I"⟩ : MethodName) ∈ TB := tb_in (i := 15) (by decide +kernel) (by decide +kernel)
theorem mw_16 : Cond.selects "BillMatchModel" (⟨"BillMatchModel", "belowOf", "(I)I"⟩ : MethodName) (⟨"BillMatchModel", "belowOf", "(I)I"⟩ : MethodName) ∈ TB := tb_in (i := 16) (by decide +kernel) (by decide +kernel)
theorem mw_17 : Cond.selects "BillMatchModel" (⟨"BillMatchModel", "previousOf", "(I)I"⟩ : MethodName) (⟨"BillMatchModel", "previousOf", "(I)I"⟩ : MethodName) ∈ TB := tb_in (i := 17) (by decide +kernel) (by decide +kernel)
theorem mw_18 : Cond.selects "BillMatchModel" (⟨"BillMatchModel", "firstOf", "(I)I"⟩ : MethodName) (⟨"BillMatchModel", "firstOf", "(I)I"⟩ : MethodName) ∈ TB := tb_in (i := 18) (by decide +kernel) (by decide +kernel)
theorem mw_19 : Cond.selects "BillMatchModel" (⟨"BillMatchModel", "landedWeight", "(I)I"⟩ : MethodName) (⟨"BillMatchModel", "landedWeight", "(I)I"⟩ : MethodName) ∈ TB := tb_in (i := 19) (by decide +kernel) (by decide +kernel)
theorem mw_20 : Cond.selects "BillMatchModel" (⟨"BillMatchModel", "piecesOf", "(I)I"⟩ : MethodName) (⟨"BillMatchModel", "piecesOf", "(I)I"⟩ : MethodName) ∈ TB := tb_in (i := 20) (by decide +kernel) (by decide +kernel)
theorem mw_21 : Cond.selects "BillMatchModel" (⟨"BillMatchModel", "differs", "(I)I"⟩ : MethodName) (⟨"BillMatchModel", "differs", "(I)I"⟩ : MethodName) ∈ TB := tb_in (i := 21) (by decide +kernel) (by decide +kernel)
theorem mw_22 : Cond.selects "BillMatchModel" (⟨"BillMatchModel", "boxesOf", "(I)I"⟩ : MethodName) (⟨"BillMatchModel", "boxesOf", "(I)I"⟩ : MethodName) ∈ TB := tb_in (i := 22) (by decide +kernel) (by decide +kernel)
theorem mw_23 : Cond.selects "BillMatchModel" (⟨"BillMatchModel", "masterOf", "(I)I"⟩ : MethodName) (⟨"BillMatchModel", "masterOf", "(I)I"⟩ : MethodName) ∈ TB := tb_in (i := 23) (by decide +kernel) (by decide +kernel)
theorem mw_24 : Cond.selects "BillMatchModel" (⟨"BillMatchModel", "waitsNow", "(I)Z"⟩ : MethodName) (⟨"BillMatchModel", "waitsNow", "(I)Z"⟩ : MethodName) ∈ TB := tb_in (i := 24) (by decide +kernel) (by decide +kernel)
theorem mw_25 : Cond.selects "BillMatchModel" (⟨"BillMatchModel", "differing", "()I"⟩ : MethodName) (⟨"BillMatchModel", "differing", "()I"⟩ : MethodName) ∈ TB := tb_in (i := 25) (by decide +kernel) (by decide +kernel)
theorem mw_26 : (Jvm.Cond.initialized "BillMatchLaw") ∈ TB := tb_in (i := 26) (by decide +kernel) (by decide +kernel)
theorem mw_27 : (Jvm.Cond.initialized "BillMatch") ∈ TB := tb_in (i := 27) (by decide +kernel) (by decide +kernel)
theorem mw_28 : (Jvm.Cond.initialized "BillMatch$Bills") ∈ TB := tb_in (i := 28) (by decide +kernel) (by decide +kernel)
theorem mw_29 : (Jvm.Cond.initialized "BillMatch$Lines") ∈ TB := tb_in (i := 29) (by decide +kernel) (by decide +kernel)
theorem mw_30 : (Jvm.Cond.initialized "BillMatch$Boxes") ∈ TB := tb_in (i := 30) (by decide +kernel) (by decide +kernel)
theorem mw_31 : (Jvm.Cond.initialized "BillMatchModel") ∈ TB := tb_in (i := 31) (by decide +kernel) (by decide +kernel)
theorem mw_32 : (Jvm.Cond.initialized "java/lang/Throwable") ∈ TB := tb_in (i := 32) (by decide +kernel) (by decide +kernel)
theorem mw_33 : (Jvm.Cond.initialized "java/lang/Exception") ∈ TB := tb_in (i := 33) (by decide +kernel) (by decide +kernel)
theorem mw_34 : (Jvm.Cond.initialized "java/lang/RuntimeException") ∈ TB := tb_in (i := 34) (by decide +kernel) (by decide +kernel)
theorem mw_35 : (Jvm.Cond.initialized "java/lang/IllegalArgumentException") ∈ TB := tb_in (i := 35) (by decide +kernel) (by decide +kernel)
theorem mw_36 : (Jvm.Cond.initialized "java/lang/IllegalStateException") ∈ TB := tb_in (i := 36) (by decide +kernel) (by decide +kernel)
theorem mw_37 : (Jvm.Cond.initialized "java/lang/Long") ∈ TB := tb_in (i := 37) (by decide +kernel) (by decide +kernel)
theorem mw_38 : (Jvm.Cond.initialized "java/lang/Math") ∈ TB := tb_in (i := 38) (by decide +kernel) (by decide +kernel)
theorem mw_39 : (Jvm.Cond.initialized "java/lang/IndexOutOfBoundsException") ∈ TB := tb_in (i := 39) (by decide +kernel) (by decide +kernel)
theorem mw_40 : (Jvm.Cond.initialized "java/util/NoSuchElementException") ∈ TB := tb_in (i := 40) (by decide +kernel) (by decide +kernel)
theorem mw_41 : (Jvm.Cond.classLink "BillMatchLaw" (8 : Nat) "BillMatch") ∈ TB := tb_in (i := 41) (by decide +kernel) (by decide +kernel)
theorem mw_42 : (Jvm.Cond.instantiable "BillMatch" (5 : Nat)) ∈ TB := tb_in (i := 42) (by decide +kernel) (by decide +kernel)
theorem mw_43 : (Jvm.Cond.methodLink "BillMatchLaw" (49 : Nat) ({ cls := "BillMatch", name := "<init>", desc := "()V" } : Jvm.MethodName)) ∈ TB := tb_in (i := 43) (by decide +kernel) (by decide +kernel)
theorem mw_44 : (Jvm.Cond.instanceMethod ({ cls := "BillMatch", name := "<init>", desc := "()V" } : Jvm.MethodName)) ∈ TB := tb_in (i := 44) (by decide +kernel) (by decide +kernel)
theorem mw_45 : (Jvm.Cond.code ({ cls := "BillMatch", name := "<init>", desc := "()V" } : Jvm.MethodName) prog_1_method_1_code (1 : Nat) (Option.none : Option Jvm.ClassFile.FieldType)) ∈ TB := tb_in (i := 45) (by decide +kernel) (by decide +kernel)
theorem mw_46 : (Jvm.Cond.methodLink "BillMatch" (3 : Nat) ({ cls := "java/lang/Object", name := "<init>", desc := "()V" } : Jvm.MethodName)) ∈ TB := tb_in (i := 46) (by decide +kernel) (by decide +kernel)
theorem mw_47 : (Jvm.Cond.instanceMethod ({ cls := "java/lang/Object", name := "<init>", desc := "()V" } : Jvm.MethodName)) ∈ TB := tb_in (i := 47) (by decide +kernel) (by decide +kernel)
theorem mw_48 : (Jvm.Cond.code ({ cls := "java/lang/Object", name := "<init>", desc := "()V" } : Jvm.MethodName) object_method_1_code (1 : Nat) (Option.none : Option Jvm.ClassFile.FieldType)) ∈ TB := tb_in (i := 48) (by decide +kernel) (by decide +kernel)
theorem mw_49 : (Jvm.Cond.classLink "BillMatch" (9 : Nat) "BillMatch$Bills") ∈ TB := tb_in (i := 49) (by decide +kernel) (by decide +kernel)
theorem mw_50 : (Jvm.Cond.instantiable "BillMatch$Bills" (8 : Nat)) ∈ TB := tb_in (i := 50) (by decide +kernel) (by decide +kernel)
theorem mw_51 : (Jvm.Cond.methodLink "BillMatch" (11 : Nat) ({ cls := "BillMatch$Bills", name := "<init>", desc := "()V" } : Jvm.MethodName)) ∈ TB := tb_in (i := 51) (by decide +kernel) (by decide +kernel)
theorem mw_52 : (Jvm.Cond.instanceMethod ({ cls := "BillMatch$Bills", name := "<init>", desc := "()V" } : Jvm.MethodName)) ∈ TB := tb_in (i := 52) (by decide +kernel) (by decide +kernel)
theorem mw_53 : (Jvm.Cond.code ({ cls := "BillMatch$Bills", name := "<init>", desc := "()V" } : Jvm.MethodName) prog_2_method_1_code (1 : Nat) (Option.none : Option Jvm.ClassFile.FieldType)) ∈ TB := tb_in (i := 53) (by decide +kernel) (by decide +kernel)
theorem mw_54 : (Jvm.Cond.methodLink "BillMatch$Bills" (3 : Nat) ({ cls := "java/lang/Object", name := "<init>", desc := "()V" } : Jvm.MethodName)) ∈ TB := tb_in (i := 54) (by decide +kernel) (by decide +kernel)
theorem mw_55 : (Jvm.Cond.fieldLink "BillMatch$Bills" (9 : Nat) "BillMatch$Bills" "size" "I") ∈ TB := tb_in (i := 55) (by decide +kernel) (by decide +kernel)
theorem mw_56 : (Jvm.Cond.fieldLink "BillMatch" (237 : Nat) "BillMatch$Bills" "size" "I") ∈ TB := tb_in (i := 56) (by decide +kernel) (by decide +kernel)
theorem mw_57 : (Jvm.Cond.fieldLink "BillMatch$Bills" (15 : Nat) "BillMatch$Bills" "call" "[I") ∈ TB := tb_in (i := 57) (by decide +kernel) (by decide +kernel)
theorem mw_58 : (Jvm.Cond.fieldLink "BillMatch" (97 : Nat) "BillMatch$Bills" "call" "[I") ∈ TB := tb_in (i := 58) (by decide +kernel) (by decide +kernel)
theorem mw_59 : (Jvm.Cond.fieldLink "BillMatch$Bills" (19 : Nat) "BillMatch$Bills" "number" "[I") ∈ TB := tb_in (i := 59) (by decide +kernel) (by decide +kernel)
theorem mw_60 : (Jvm.Cond.fieldLink "BillMatch" (185 : Nat) "BillMatch$Bills" "number" "[I") ∈ TB := tb_in (i := 60) (by decide +kernel) (by decide +kernel)
theorem mw_61 : (Jvm.Cond.fieldLink "BillMatch$Bills" (22 : Nat) "BillMatch$Bills" "above" "[I") ∈ TB := tb_in (i := 61) (by decide +kernel) (by decide +kernel)
theorem mw_62 : (Jvm.Cond.fieldLink "BillMatch" (168 : Nat) "BillMatch$Bills" "above" "[I") ∈ TB := tb_in (i := 62) (by decide +kernel) (by decide +kernel)
theorem mw_63 : (Jvm.Cond.fieldLink "BillMatch$Bills" (25 : Nat) "BillMatch$Bills" "depth" "[I") ∈ TB := tb_in (i := 63) (by decide +kernel) (by decide +kernel)
theorem mw_64 : (Jvm.Cond.fieldLink "BillMatch" (188 : Nat) "BillMatch$Bills" "depth" "[I") ∈ TB := tb_in (i := 64) (by decide +kernel) (by decide +kernel)
theorem mw_65 : (Jvm.Cond.fieldLink "BillMatch$Bills" (28 : Nat) "BillMatch$Bills" "master" "[I") ∈ TB := tb_in (i := 65) (by decide +kernel) (by decide +kernel)
theorem mw_66 : (Jvm.Cond.fieldLink "BillMatch" (209 : Nat) "BillMatch$Bills" "master" "[I") ∈ TB := tb_in (i := 66) (by decide +kernel) (by decide +kernel)
theorem mw_67 : (Jvm.Cond.fieldLink "BillMatch$Bills" (31 : Nat) "BillMatch$Bills" "holder" "[I") ∈ TB := tb_in (i := 67) (by decide +kernel) (by decide +kernel)
theorem mw_68 : (Jvm.Cond.fieldLink "BillMatch" (140 : Nat) "BillMatch$Bills" "holder" "[I") ∈ TB := tb_in (i := 68) (by decide +kernel) (by decide +kernel)
theorem mw_69 : (Jvm.Cond.fieldLink "BillMatch$Bills" (34 : Nat) "BillMatch$Bills" "orders" "[I") ∈ TB := tb_in (i := 69) (by decide +kernel) (by decide +kernel)
theorem mw_70 : (Jvm.Cond.fieldLink "BillMatch" (149 : Nat) "BillMatch$Bills" "orders" "[I") ∈ TB := tb_in (i := 70) (by decide +kernel) (by decide +kernel)
theorem mw_88 : (Jvm.Cond.arrayClass Jvm.ClassFile.FieldType.int) ∈ TB := tb_in (i := 88) (by decide +kernel) (by decide +kernel)
theorem mw_89 : (Jvm.Cond.classLink "BillMatch" (16 : Nat) "BillMatch$Lines") ∈ TB := tb_in (i := 89) (by decide +kernel) (by decide +kernel)
theorem mw_90 : (Jvm.Cond.instantiable "BillMatch$Lines" (6 : Nat)) ∈ TB := tb_in (i := 90) (by decide +kernel) (by decide +kernel)
theorem mw_91 : (Jvm.Cond.methodLink "BillMatch" (18 : Nat) ({ cls := "BillMatch$Lines", name := "<init>", desc := "()V" } : Jvm.MethodName)) ∈ TB := tb_in (i := 91) (by decide +kernel) (by decide +kernel)
theorem mw_92 : (Jvm.Cond.instanceMethod ({ cls := "BillMatch$Lines", name := "<init>", desc := "()V" } : Jvm.MethodName)) ∈ TB := tb_in (i := 92) (by decide +kernel) (by decide +kernel)
theorem mw_93 : (Jvm.Cond.code ({ cls := "BillMatch$Lines", name := "<init>", desc := "()V" } : Jvm.MethodName) prog_4_method_1_code (1 : Nat) (Option.none : Option Jvm.ClassFile.FieldType)) ∈ TB := tb_in (i := 93) (by decide +kernel) (by decide +kernel)
theorem mw_94 : (Jvm.Cond.methodLink "BillMatch$Lines" (3 : Nat) ({ cls := "java/lang/Object", name := "<init>", desc := "()V" } : Jvm.MethodName)) ∈ TB := tb_in (i := 94) (by decide +kernel) (by decide +kernel)
theorem mw_95 : (Jvm.Cond.fieldLink "BillMatch$Lines" (9 : Nat) "BillMatch$Lines" "size" "I") ∈ TB := tb_in (i := 95) (by decide +kernel) (by decide +kernel)
theorem mw_96 : (Jvm.Cond.fieldLink "BillMatch" (241 : Nat) "BillMatch$Lines" "size" "I") ∈ TB := tb_in (i := 96) (by decide +kernel) (by decide +kernel)
theorem mw_97 : (Jvm.Cond.fieldLink "BillMatch$Lines" (15 : Nat) "BillMatch$Lines" "bill" "[I") ∈ TB := tb_in (i := 97) (by decide +kernel) (by decide +kernel)
theorem mw_98 : (Jvm.Cond.fieldLink "BillMatch$Lines" (19 : Nat) "BillMatch$Lines" "weight" "[I") ∈ TB := tb_in (i := 98) (by decide +kernel) (by decide +kernel)
theorem mw_99 : (Jvm.Cond.fieldLink "BillMatch$Lines" (22 : Nat) "BillMatch$Lines" "linesOf" "[I") ∈ TB := tb_in (i := 99) (by decide +kernel) (by decide +kernel)
theorem mw_100 : (Jvm.Cond.fieldLink "BillMatch" (191 : Nat) "BillMatch$Lines" "linesOf" "[I") ∈ TB := tb_in (i := 100) (by decide +kernel) (by decide +kernel)
theorem mw_101 : (Jvm.Cond.fieldLink "BillMatch$Lines" (25 : Nat) "BillMatch$Lines" "weightOf" "[I") ∈ TB := tb_in (i := 101) (by decide +kernel) (by decide +kernel)
theorem mw_102 : (Jvm.Cond.fieldLink "BillMatch" (156 : Nat) "BillMatch$Lines" "weightOf" "[I") ∈ TB := tb_in (i := 102) (by decide +kernel) (by decide +kernel)
theorem mw_103 : (Jvm.Cond.fieldLink "BillMatch$Lines" (28 : Nat) "BillMatch$Lines" "piecesOf" "[I") ∈ TB := tb_in (i := 103) (by decide +kernel) (by decide +kernel)
theorem mw_104 : (Jvm.Cond.fieldLink "BillMatch" (194 : Nat) "BillMatch$Lines" "piecesOf" "[I") ∈ TB := tb_in (i := 104) (by decide +kernel) (by decide +kernel)
theorem mw_118 : (Jvm.Cond.classLink "BillMatch" (23 : Nat) "BillMatch$Boxes") ∈ TB := tb_in (i := 118) (by decide +kernel) (by decide +kernel)
theorem mw_119 : (Jvm.Cond.instantiable "BillMatch$Boxes" (9 : Nat)) ∈ TB := tb_in (i := 119) (by decide +kernel) (by decide +kernel)
theorem mw_120 : (Jvm.Cond.methodLink "BillMatch" (25 : Nat) ({ cls := "BillMatch$Boxes", name := "<init>", desc := "()V" } : Jvm.MethodName)) ∈ TB := tb_in (i := 120) (by decide +kernel) (by decide +kernel)
theorem mw_121 : (Jvm.Cond.instanceMethod ({ cls := "BillMatch$Boxes", name := "<init>", desc := "()V" } : Jvm.MethodName)) ∈ TB := tb_in (i := 121) (by decide +kernel) (by decide +kernel)
theorem mw_122 : (Jvm.Cond.code ({ cls := "BillMatch$Boxes", name := "<init>", desc := "()V" } : Jvm.MethodName) prog_3_method_1_code (1 : Nat) (Option.none : Option Jvm.ClassFile.FieldType)) ∈ TB := tb_in (i := 122) (by decide +kernel) (by decide +kernel)
theorem mw_123 : (Jvm.Cond.methodLink "BillMatch$Boxes" (3 : Nat) ({ cls := "java/lang/Object", name := "<init>", desc := "()V" } : Jvm.MethodName)) ∈ TB := tb_in (i := 123) (by decide +kernel) (by decide +kernel)
theorem mw_124 : (Jvm.Cond.fieldLink "BillMatch$Boxes" (9 : Nat) "BillMatch$Boxes" "size" "I") ∈ TB := tb_in (i := 124) (by decide +kernel) (by decide +kernel)
theorem mw_125 : (Jvm.Cond.fieldLink "BillMatch" (234 : Nat) "BillMatch$Boxes" "size" "I") ∈ TB := tb_in (i := 125) (by decide +kernel) (by decide +kernel)
theorem mw_126 : (Jvm.Cond.fieldLink "BillMatch$Boxes" (15 : Nat) "BillMatch$Boxes" "call" "[I") ∈ TB := tb_in (i := 126) (by decide +kernel) (by decide +kernel)
theorem mw_127 : (Jvm.Cond.fieldLink "BillMatch" (93 : Nat) "BillMatch$Boxes" "call" "[I") ∈ TB := tb_in (i := 127) (by decide +kernel) (by decide +kernel)
theorem mw_128 : (Jvm.Cond.fieldLink "BillMatch$Boxes" (19 : Nat) "BillMatch$Boxes" "number" "[I") ∈ TB := tb_in (i := 128) (by decide +kernel) (by decide +kernel)
theorem mw_129 : (Jvm.Cond.fieldLink "BillMatch" (216 : Nat) "BillMatch$Boxes" "number" "[I") ∈ TB := tb_in (i := 129) (by decide +kernel) (by decide +kernel)
theorem mw_130 : (Jvm.Cond.fieldLink "BillMatch$Boxes" (22 : Nat) "BillMatch$Boxes" "weight" "[I") ∈ TB := tb_in (i := 130) (by decide +kernel) (by decide +kernel)
theorem mw_131 : (Jvm.Cond.fieldLink "BillMatch" (217 : Nat) "BillMatch$Boxes" "weight" "[I") ∈ TB := tb_in (i := 131) (by decide +kernel) (by decide +kernel)
theorem mw_132 : (Jvm.Cond.fieldLink "BillMatch$Boxes" (25 : Nat) "BillMatch$Boxes" "landed" "[I") ∈ TB := tb_in (i := 132) (by decide +kernel) (by decide +kernel)
theorem mw_133 : (Jvm.Cond.fieldLink "BillMatch" (115 : Nat) "BillMatch$Boxes" "landed" "[I") ∈ TB := tb_in (i := 133) (by decide +kernel) (by decide +kernel)
theorem mw_134 : (Jvm.Cond.fieldLink "BillMatch$Boxes" (28 : Nat) "BillMatch$Boxes" "bills" "[J") ∈ TB := tb_in (i := 134) (by decide +kernel) (by decide +kernel)
theorem mw_135 : (Jvm.Cond.fieldLink "BillMatch$Boxes" (32 : Nat) "BillMatch$Boxes" "orderedBy" "[I") ∈ TB := tb_in (i := 135) (by decide +kernel) (by decide +kernel)
theorem mw_136 : (Jvm.Cond.fieldLink "BillMatch" (146 : Nat) "BillMatch$Boxes" "orderedBy" "[I") ∈ TB := tb_in (i := 136) (by decide +kernel) (by decide +kernel)
theorem mw_137 : (Jvm.Cond.fieldLink "BillMatch$Boxes" (35 : Nat) "BillMatch$Boxes" "next" "[I") ∈ TB := tb_in (i := 137) (by decide +kernel) (by decide +kernel)
theorem mw_138 : (Jvm.Cond.fieldLink "BillMatch" (171 : Nat) "BillMatch$Boxes" "next" "[I") ∈ TB := tb_in (i := 138) (by decide +kernel) (by decide +kernel)
theorem mw_139 : (Jvm.Cond.fieldLink "BillMatch$Boxes" (38 : Nat) "BillMatch$Boxes" "before" "[I") ∈ TB := tb_in (i := 139) (by decide +kernel) (by decide +kernel)
theorem mw_140 : (Jvm.Cond.fieldLink "BillMatch" (174 : Nat) "BillMatch$Boxes" "before" "[I") ∈ TB := tb_in (i := 140) (by decide +kernel) (by decide +kernel)
theorem mw_160 : (Jvm.Cond.arrayClass Jvm.ClassFile.FieldType.long) ∈ TB := tb_in (i := 160) (by decide +kernel) (by decide +kernel)
theorem mw_161 : (Jvm.Cond.fieldLink "BillMatch" (12 : Nat) "BillMatch" "bills" "LBillMatch$Bills;") ∈ TB := tb_in (i := 161) (by decide +kernel) (by decide +kernel)
theorem mw_162 : (Jvm.Cond.fieldLink "BillMatch" (19 : Nat) "BillMatch" "lines" "LBillMatch$Lines;") ∈ TB := tb_in (i := 162) (by decide +kernel) (by decide +kernel)
theorem mw_163 : (Jvm.Cond.fieldLink "BillMatch" (26 : Nat) "BillMatch" "boxes" "LBillMatch$Boxes;") ∈ TB := tb_in (i := 163) (by decide +kernel) (by decide +kernel)
theorem mw_164 : (Jvm.Cond.fieldLink "BillMatch" (30 : Nat) "BillMatch" "arrivedCalls" "I") ∈ TB := tb_in (i := 164) (by decide +kernel) (by decide +kernel)
theorem mw_165 : (Jvm.Cond.fieldLink "BillMatch" (34 : Nat) "BillMatch" "penalties" "I") ∈ TB := tb_in (i := 165) (by decide +kernel) (by decide +kernel)
theorem mw_177 : (Jvm.Cond.methodLink "BillMatchLaw" (69 : Nat) ({ cls := "BillMatch", name := "on", desc := "(II)Z" } : Jvm.MethodName)) ∈ TB := tb_in (i := 177) (by decide +kernel) (by decide +kernel)
theorem mw_178 : (Jvm.Cond.instanceMethod ({ cls := "BillMatch", name := "on", desc := "(II)Z" } : Jvm.MethodName)) ∈ TB := tb_in (i := 178) (by decide +kernel) (by decide +kernel)
theorem mw_179 : (Jvm.Cond.selects "BillMatch" ({ cls := "BillMatch", name := "on", desc := "(II)Z" } : Jvm.MethodName) ({ cls := "BillMatch", name := "on", desc := "(II)Z" } : Jvm.MethodName)) ∈ TB := tb_in (i := 179) (by decide +kernel) (by decide +kernel)
theorem mw_180 : (Jvm.Cond.code ({ cls := "BillMatch", name := "on", desc := "(II)Z" } : Jvm.MethodName) prog_1_method_5_code (3 : Nat) (Option.some Jvm.ClassFile.FieldType.boolean)) ∈ TB := tb_in (i := 180) (by decide +kernel) (by decide +kernel)
theorem mw_181 : (Jvm.Cond.methodLink "BillMatch" (92 : Nat) ({ cls := "BillMatch$Boxes", name := "has", desc := "(I)Z" } : Jvm.MethodName)) ∈ TB := tb_in (i := 181) (by decide +kernel) (by decide +kernel)
theorem mw_182 : (Jvm.Cond.instanceMethod ({ cls := "BillMatch$Boxes", name := "has", desc := "(I)Z" } : Jvm.MethodName)) ∈ TB := tb_in (i := 182) (by decide +kernel) (by decide +kernel)
theorem mw_183 : (Jvm.Cond.selects "BillMatch$Boxes" ({ cls := "BillMatch$Boxes", name := "has", desc := "(I)Z" } : Jvm.MethodName) ({ cls := "BillMatch$Boxes", name := "has", desc := "(I)Z" } : Jvm.MethodName)) ∈ TB := tb_in (i := 183) (by decide +kernel) (by decide +kernel)
theorem mw_184 : (Jvm.Cond.code ({ cls := "BillMatch$Boxes", name := "has", desc := "(I)Z" } : Jvm.MethodName) prog_3_method_2_code (2 : Nat) (Option.some Jvm.ClassFile.FieldType.boolean)) ∈ TB := tb_in (i := 184) (by decide +kernel) (by decide +kernel)
theorem mw_185 : (Jvm.Cond.methodLink "BillMatch" (71 : Nat) ({ cls := "BillMatch$Bills", name := "has", desc := "(I)Z" } : Jvm.MethodName)) ∈ TB := tb_in (i := 185) (by decide +kernel) (by decide +kernel)
theorem mw_186 : (Jvm.Cond.instanceMethod ({ cls := "BillMatch$Bills", name := "has", desc := "(I)Z" } : Jvm.MethodName)) ∈ TB := tb_in (i := 186) (by decide +kernel) (by decide +kernel)
theorem mw_187 : (Jvm.Cond.selects "BillMatch$Bills" ({ cls := "BillMatch$Bills", name := "has", desc := "(I)Z" } : Jvm.MethodName) ({ cls := "BillMatch$Bills", name := "has", desc := "(I)Z" } : Jvm.MethodName)) ∈ TB := tb_in (i := 187) (by decide +kernel) (by decide +kernel)
theorem mw_188 : (Jvm.Cond.code ({ cls := "BillMatch$Bills", name := "has", desc := "(I)Z" } : Jvm.MethodName) prog_2_method_2_code (2 : Nat) (Option.some Jvm.ClassFile.FieldType.boolean)) ∈ TB := tb_in (i := 188) (by decide +kernel) (by decide +kernel)
theorem mw_189 : (Jvm.Cond.methodLink "BillMatch" (98 : Nat) ({ cls := "BillMatch$Boxes", name := "isOn", desc := "(II)Z" } : Jvm.MethodName)) ∈ TB := tb_in (i := 189) (by decide +kernel) (by decide +kernel)
theorem mw_190 : (Jvm.Cond.instanceMethod ({ cls := "BillMatch$Boxes", name := "isOn", desc := "(II)Z" } : Jvm.MethodName)) ∈ TB := tb_in (i := 190) (by decide +kernel) (by decide +kernel)
theorem mw_191 : (Jvm.Cond.selects "BillMatch$Boxes" ({ cls := "BillMatch$Boxes", name := "isOn", desc := "(II)Z" } : Jvm.MethodName) ({ cls := "BillMatch$Boxes", name := "isOn", desc := "(II)Z" } : Jvm.MethodName)) ∈ TB := tb_in (i := 191) (by decide +kernel) (by decide +kernel)
theorem mw_192 : (Jvm.Cond.code ({ cls := "BillMatch$Boxes", name := "isOn", desc := "(II)Z" } : Jvm.MethodName) prog_3_method_6_code (3 : Nat) (Option.some Jvm.ClassFile.FieldType.boolean)) ∈ TB := tb_in (i := 192) (by decide +kernel) (by decide +kernel)
theorem mw_193 : (Jvm.Cond.methodLink "BillMatch" (101 : Nat) ({ cls := "BillMatch$Boxes", name := "billsOf", desc := "(I)I" } : Jvm.MethodName)) ∈ TB := tb_in (i := 193) (by decide +kernel) (by decide +kernel)
theorem mw_194 : (Jvm.Cond.instanceMethod ({ cls := "BillMatch$Boxes", name := "billsOf", desc := "(I)I" } : Jvm.MethodName)) ∈ TB := tb_in (i := 194) (by decide +kernel) (by decide +kernel)
theorem mw_195 : (Jvm.Cond.selects "BillMatch$Boxes" ({ cls := "BillMatch$Boxes", name := "billsOf", desc := "(I)I" } : Jvm.MethodName) ({ cls := "BillMatch$Boxes", name := "billsOf", desc := "(I)I" } : Jvm.MethodName)) ∈ TB := tb_in (i := 195) (by decide +kernel) (by decide +kernel)
theorem mw_196 : (Jvm.Cond.code ({ cls := "BillMatch$Boxes", name := "billsOf", desc := "(I)I" } : Jvm.MethodName) prog_3_method_8_code (2 : Nat) (Option.some Jvm.ClassFile.FieldType.int)) ∈ TB := tb_in (i := 196) (by decide +kernel) (by decide +kernel)
theorem mw_197 : (Jvm.Cond.methodLink "BillMatch$Boxes" (41 : Nat) ({ cls := "java/lang/Long", name := "bitCount", desc := "(J)I" } : Jvm.MethodName)) ∈ TB := tb_in (i := 197) (by decide +kernel) (by decide +kernel)
theorem mw_198 : (Jvm.Cond.static ({ cls := "java/lang/Long", name := "bitCount", desc := "(J)I" } : Jvm.MethodName)) ∈ TB := tb_in (i := 198) (by decide +kernel) (by decide +kernel)
theorem mw_199 : (Jvm.Cond.code ({ cls := "java/lang/Long", name := "bitCount", desc := "(J)I" } : Jvm.MethodName) prog_11_method_50_code (2 : Nat) (Option.some Jvm.ClassFile.FieldType.int)) ∈ TB := tb_in (i := 199) (by decide +kernel) (by decide +kernel)
theorem mw_200 : (Jvm.Cond.constantLong "java/lang/Long" (314 : Nat) (6148914691236517205 : Int64)) ∈ TB := tb_in (i := 200) (by decide +kernel) (by decide +kernel)
theorem mw_201 : (Jvm.Cond.constantLong "java/lang/Long" (316 : Nat) (3689348814741910323 : Int64)) ∈ TB := tb_in (i := 201) (by decide +kernel) (by decide +kernel)
theorem mw_202 : (Jvm.Cond.constantLong "java/lang/Long" (318 : Nat) (1085102592571150095 : Int64)) ∈ TB := tb_in (i := 202) (by decide +kernel) (by decide +kernel)
theorem mw_203 : (Jvm.Cond.methodLink "BillMatch" (105 : Nat) ({ cls := "BillMatch$Boxes", name := "isOrdered", desc := "(I)Z" } : Jvm.MethodName)) ∈ TB := tb_in (i := 203) (by decide +kernel) (by decide +kernel)
theorem mw_204 : (Jvm.Cond.instanceMethod ({ cls := "BillMatch$Boxes", name := "isOrdered", desc := "(I)Z" } : Jvm.MethodName)) ∈ TB := tb_in (i := 204) (by decide +kernel) (by decide +kernel)
theorem mw_205 : (Jvm.Cond.selects "BillMatch$Boxes" ({ cls := "BillMatch$Boxes", name := "isOrdered", desc := "(I)Z" } : Jvm.MethodName) ({ cls := "BillMatch$Boxes", name := "isOrdered", desc := "(I)Z" } : Jvm.MethodName)) ∈ TB := tb_in (i := 205) (by decide +kernel) (by decide +kernel)
theorem mw_206 : (Jvm.Cond.code ({ cls := "BillMatch$Boxes", name := "isOrdered", desc := "(I)Z" } : Jvm.MethodName) prog_3_method_11_code (2 : Nat) (Option.some Jvm.ClassFile.FieldType.boolean)) ∈ TB := tb_in (i := 206) (by decide +kernel) (by decide +kernel)
theorem mw_207 : (Jvm.Cond.methodLink "BillMatch" (108 : Nat) ({ cls := "BillMatch$Boxes", name := "putOn", desc := "(II)V" } : Jvm.MethodName)) ∈ TB := tb_in (i := 207) (by decide +kernel) (by decide +kernel)
theorem mw_208 : (Jvm.Cond.instanceMethod ({ cls := "BillMatch$Boxes", name := "putOn", desc := "(II)V" } : Jvm.MethodName)) ∈ TB := tb_in (i := 208) (by decide +kernel) (by decide +kernel)
theorem mw_209 : (Jvm.Cond.selects "BillMatch$Boxes" ({ cls := "BillMatch$Boxes", name := "putOn", desc := "(II)V" } : Jvm.MethodName) ({ cls := "BillMatch$Boxes", name := "putOn", desc := "(II)V" } : Jvm.MethodName)) ∈ TB := tb_in (i := 209) (by decide +kernel) (by decide +kernel)
theorem mw_210 : (Jvm.Cond.code ({ cls := "BillMatch$Boxes", name := "putOn", desc := "(II)V" } : Jvm.MethodName) prog_3_method_7_code (3 : Nat) (Option.none : Option Jvm.ClassFile.FieldType)) ∈ TB := tb_in (i := 210) (by decide +kernel) (by decide +kernel)
theorem mw_211 : (Jvm.Cond.methodLink "BillMatchLaw" (74 : Nat) ({ cls := "BillMatch", name := "land", desc := "(II)Z" } : Jvm.MethodName)) ∈ TB := tb_in (i := 211) (by decide +kernel) (by decide +kernel)
theorem mw_212 : (Jvm.Cond.instanceMethod ({ cls := "BillMatch", name := "land", desc := "(II)Z" } : Jvm.MethodName)) ∈ TB := tb_in (i := 212) (by decide +kernel) (by decide +kernel)
theorem mw_213 : (Jvm.Cond.selects "BillMatch" ({ cls := "BillMatch", name := "land", desc := "(II)Z" } : Jvm.MethodName) ({ cls := "BillMatch", name := "land", desc := "(II)Z" } : Jvm.MethodName)) ∈ TB := tb_in (i := 213) (by decide +kernel) (by decide +kernel)
theorem mw_214 : (Jvm.Cond.code ({ cls := "BillMatch", name := "land", desc := "(II)Z" } : Jvm.MethodName) prog_1_method_6_code (3 : Nat) (Option.some Jvm.ClassFile.FieldType.boolean)) ∈ TB := tb_in (i := 214) (by decide +kernel) (by decide +kernel)
theorem mw_215 : (Jvm.Cond.methodLink "BillMatch" (112 : Nat) ({ cls := "BillMatch$Boxes", name := "hasLanded", desc := "(I)Z" } : Jvm.MethodName)) ∈ TB := tb_in (i := 215) (by decide +kernel) (by decide +kernel)
theorem mw_216 : (Jvm.Cond.instanceMethod ({ cls := "BillMatch$Boxes", name := "hasLanded", desc := "(I)Z" } : Jvm.MethodName)) ∈ TB := tb_in (i := 216) (by decide +kernel) (by decide +kernel)
theorem mw_217 : (Jvm.Cond.selects "BillMatch$Boxes" ({ cls := "BillMatch$Boxes", name := "hasLanded", desc := "(I)Z" } : Jvm.MethodName) ({ cls := "BillMatch$Boxes", name := "hasLanded", desc := "(I)Z" } : Jvm.MethodName)) ∈ TB := tb_in (i := 217) (by decide +kernel) (by decide +kernel)
theorem mw_218 : (Jvm.Cond.code ({ cls := "BillMatch$Boxes", name := "hasLanded", desc := "(I)Z" } : Jvm.MethodName) prog_3_method_10_code (2 : Nat) (Option.some Jvm.ClassFile.FieldType.boolean)) ∈ TB := tb_in (i := 218) (by decide +kernel) (by decide +kernel)
theorem mw_219 : (Jvm.Cond.methodLink "BillMatch" (74 : Nat) ({ cls := "BillMatch", name := "isWeight", desc := "(I)Z" } : Jvm.MethodName)) ∈ TB := tb_in (i := 219) (by decide +kernel) (by decide +kernel)
theorem mw_220 : (Jvm.Cond.static ({ cls := "BillMatch", name := "isWeight", desc := "(I)Z" } : Jvm.MethodName)) ∈ TB := tb_in (i := 220) (by decide +kernel) (by decide +kernel)
theorem mw_221 : (Jvm.Cond.code ({ cls := "BillMatch", name := "isWeight", desc := "(I)Z" } : Jvm.MethodName) prog_1_method_24_code (1 : Nat) (Option.some Jvm.ClassFile.FieldType.boolean)) ∈ TB := tb_in (i := 221) (by decide +kernel) (by decide +kernel)
theorem mw_222 : (Jvm.Cond.constant "BillMatch" (259 : Nat) (1000000 : Int32)) ∈ TB := tb_in (i := 222) (by decide +kernel) (by decide +kernel)
theorem mw_223 : (Jvm.Cond.methodLink "BillMatchLaw" (78 : Nat) ({ cls := "BillMatch", name := "arrive", desc := "(I)Z" } : Jvm.MethodName)) ∈ TB := tb_in (i := 223) (by decide +kernel) (by decide +kernel)
theorem mw_224 : (Jvm.Cond.instanceMethod ({ cls := "BillMatch", name := "arrive", desc := "(I)Z" } : Jvm.MethodName)) ∈ TB := tb_in (i := 224) (by decide +kernel) (by decide +kernel)
theorem mw_225 : (Jvm.Cond.selects "BillMatch" ({ cls := "BillMatch", name := "arrive", desc := "(I)Z" } : Jvm.MethodName) ({ cls := "BillMatch", name := "arrive", desc := "(I)Z" } : Jvm.MethodName)) ∈ TB := tb_in (i := 225) (by decide +kernel) (by decide +kernel)
theorem mw_226 : (Jvm.Cond.code ({ cls := "BillMatch", name := "arrive", desc := "(I)Z" } : Jvm.MethodName) prog_1_method_7_code (2 : Nat) (Option.some Jvm.ClassFile.FieldType.boolean)) ∈ TB := tb_in (i := 226) (by decide +kernel) (by decide +kernel)
theorem mw_227 : (Jvm.Cond.methodLink "BillMatch" (37 : Nat) ({ cls := "BillMatch", name := "isCall", desc := "(I)Z" } : Jvm.MethodName)) ∈ TB := tb_in (i := 227) (by decide +kernel) (by decide +kernel)
theorem mw_228 : (Jvm.Cond.static ({ cls := "BillMatch", name := "isCall", desc := "(I)Z" } : Jvm.MethodName)) ∈ TB := tb_in (i := 228) (by decide +kernel) (by decide +kernel)
theorem mw_229 : (Jvm.Cond.code ({ cls := "BillMatch", name := "isCall", desc := "(I)Z" } : Jvm.MethodName) prog_1_method_22_code (1 : Nat) (Option.some Jvm.ClassFile.FieldType.boolean)) ∈ TB := tb_in (i := 229) (by decide +kernel) (by decide +kernel)
theorem mw_230 : (Jvm.Cond.methodLink "BillMatch" (118 : Nat) ({ cls := "BillMatch", name := "hasArrived", desc := "(I)Z" } : Jvm.MethodName)) ∈ TB := tb_in (i := 230) (by decide +kernel) (by decide +kernel)
theorem mw_232 : (Jvm.Cond.instanceMethod ({ cls := "BillMatch", name := "hasArrived", desc := "(I)Z" } : Jvm.MethodName)) ∈ TB := tb_in (i := 232) (by decide +kernel) (by decide +kernel)
theorem mw_233 : (Jvm.Cond.code ({ cls := "BillMatch", name := "hasArrived", desc := "(I)Z" } : Jvm.MethodName) prog_1_method_18_code (2 : Nat) (Option.some Jvm.ClassFile.FieldType.boolean)) ∈ TB := tb_in (i := 233) (by decide +kernel) (by decide +kernel)
theorem mw_234 : (Jvm.Cond.methodLink "BillMatchLaw" (96 : Nat) ({ cls := "BillMatch", name := "leg", desc := "(II)Z" } : Jvm.MethodName)) ∈ TB := tb_in (i := 234) (by decide +kernel) (by decide +kernel)
theorem mw_235 : (Jvm.Cond.instanceMethod ({ cls := "BillMatch", name := "leg", desc := "(II)Z" } : Jvm.MethodName)) ∈ TB := tb_in (i := 235) (by decide +kernel) (by decide +kernel)
theorem mw_236 : (Jvm.Cond.selects "BillMatch" ({ cls := "BillMatch", name := "leg", desc := "(II)Z" } : Jvm.MethodName) ({ cls := "BillMatch", name := "leg", desc := "(II)Z" } : Jvm.MethodName)) ∈ TB := tb_in (i := 236) (by decide +kernel) (by decide +kernel)
theorem mw_237 : (Jvm.Cond.code ({ cls := "BillMatch", name := "leg", desc := "(II)Z" } : Jvm.MethodName) prog_1_method_12_code (3 : Nat) (Option.some Jvm.ClassFile.FieldType.boolean)) ∈ TB := tb_in (i := 237) (by decide +kernel) (by decide +kernel)
theorem mw_238 : (Jvm.Cond.methodLink "BillMatch" (177 : Nat) ({ cls := "BillMatch$Boxes", name := "first", desc := "(I)I" } : Jvm.MethodName)) ∈ TB := tb_in (i := 238) (by decide +kernel) (by decide +kernel)
theorem mw_239 : (Jvm.Cond.instanceMethod ({ cls := "BillMatch$Boxes", name := "first", desc := "(I)I" } : Jvm.MethodName)) ∈ TB := tb_in (i := 239) (by decide +kernel) (by decide +kernel)
theorem mw_240 : (Jvm.Cond.selects "BillMatch$Boxes" ({ cls := "BillMatch$Boxes", name := "first", desc := "(I)I" } : Jvm.MethodName) ({ cls := "BillMatch$Boxes", name := "first", desc := "(I)I" } : Jvm.MethodName)) ∈ TB := tb_in (i := 240) (by decide +kernel) (by decide +kernel)
theorem mw_241 : (Jvm.Cond.code ({ cls := "BillMatch$Boxes", name := "first", desc := "(I)I" } : Jvm.MethodName) prog_3_method_16_code (4 : Nat) (Option.some Jvm.ClassFile.FieldType.int)) ∈ TB := tb_in (i := 241) (by decide +kernel) (by decide +kernel)
theorem mw_242 : (Jvm.Cond.methodLink "BillMatch$Boxes" (63 : Nat) ({ cls := "BillMatch$Boxes", name := "has", desc := "(I)Z" } : Jvm.MethodName)) ∈ TB := tb_in (i := 242) (by decide +kernel) (by decide +kernel)
theorem mw_243 : (Jvm.Cond.methodLink "BillMatchLaw" (106 : Nat) ({ cls := "BillMatch", name := "waits", desc := "(I)I" } : Jvm.MethodName)) ∈ TB := tb_in (i := 243) (by decide +kernel) (by decide +kernel)
theorem mw_244 : (Jvm.Cond.instanceMethod ({ cls := "BillMatch", name := "waits", desc := "(I)I" } : Jvm.MethodName)) ∈ TB := tb_in (i := 244) (by decide +kernel) (by decide +kernel)
theorem mw_245 : (Jvm.Cond.selects "BillMatch" ({ cls := "BillMatch", name := "waits", desc := "(I)I" } : Jvm.MethodName) ({ cls := "BillMatch", name := "waits", desc := "(I)I" } : Jvm.MethodName)) ∈ TB := tb_in (i := 245) (by decide +kernel) (by decide +kernel)
theorem mw_246 : (Jvm.Cond.code ({ cls := "BillMatch", name := "waits", desc := "(I)I" } : Jvm.MethodName) prog_1_method_15_code (4 : Nat) (Option.some Jvm.ClassFile.FieldType.int)) ∈ TB := tb_in (i := 246) (by decide +kernel) (by decide +kernel)
theorem mw_247 : (Jvm.Cond.methodLink "BillMatch" (220 : Nat) ({ cls := "BillMatch$Boxes", name := "isWaiting", desc := "(I)Z" } : Jvm.MethodName)) ∈ TB := tb_in (i := 247) (by decide +kernel) (by decide +kernel)
theorem mw_248 : (Jvm.Cond.instanceMethod ({ cls := "BillMatch$Boxes", name := "isWaiting", desc := "(I)Z" } : Jvm.MethodName)) ∈ TB := tb_in (i := 248) (by decide +kernel) (by decide +kernel)
theorem mw_249 : (Jvm.Cond.selects "BillMatch$Boxes" ({ cls := "BillMatch$Boxes", name := "isWaiting", desc := "(I)Z" } : Jvm.MethodName) ({ cls := "BillMatch$Boxes", name := "isWaiting", desc := "(I)Z" } : Jvm.MethodName)) ∈ TB := tb_in (i := 249) (by decide +kernel) (by decide +kernel)
theorem mw_250 : (Jvm.Cond.code ({ cls := "BillMatch$Boxes", name := "isWaiting", desc := "(I)Z" } : Jvm.MethodName) prog_3_method_12_code (2 : Nat) (Option.some Jvm.ClassFile.FieldType.boolean)) ∈ TB := tb_in (i := 250) (by decide +kernel) (by decide +kernel)
theorem mw_251 : (Jvm.Cond.methodLink "BillMatch$Boxes" (51 : Nat) ({ cls := "BillMatch$Boxes", name := "hasLanded", desc := "(I)Z" } : Jvm.MethodName)) ∈ TB := tb_in (i := 251) (by decide +kernel) (by decide +kernel)
theorem mw_252 : (Jvm.Cond.methodLink "BillMatchLaw" (114 : Nat) ({ cls := "BillMatch", name := "count", desc := "(I)I" } : Jvm.MethodName)) ∈ TB := tb_in (i := 252) (by decide +kernel) (by decide +kernel)
theorem mw_253 : (Jvm.Cond.instanceMethod ({ cls := "BillMatch", name := "count", desc := "(I)I" } : Jvm.MethodName)) ∈ TB := tb_in (i := 253) (by decide +kernel) (by decide +kernel)
theorem mw_254 : (Jvm.Cond.selects "BillMatch" ({ cls := "BillMatch", name := "count", desc := "(I)I" } : Jvm.MethodName) ({ cls := "BillMatch", name := "count", desc := "(I)I" } : Jvm.MethodName)) ∈ TB := tb_in (i := 254) (by decide +kernel) (by decide +kernel)
theorem mw_255 : (Jvm.Cond.code ({ cls := "BillMatch", name := "count", desc := "(I)I" } : Jvm.MethodName) prog_1_method_17_code (2 : Nat) (Option.some Jvm.ClassFile.FieldType.int)) ∈ TB := tb_in (i := 255) (by decide +kernel) (by decide +kernel)
theorem mw_256 : (Jvm.Cond.methodLink "BillMatch" (242 : Nat) ({ cls := "BillMatch$Boxes", name := "orderedOnes", desc := "()I" } : Jvm.MethodName)) ∈ TB := tb_in (i := 256) (by decide +kernel) (by decide +kernel)
theorem mw_257 : (Jvm.Cond.instanceMethod ({ cls := "BillMatch$Boxes", name := "orderedOnes", desc := "()I" } : Jvm.MethodName)) ∈ TB := tb_in (i := 257) (by decide +kernel) (by decide +kernel)
theorem mw_258 : (Jvm.Cond.selects "BillMatch$Boxes" ({ cls := "BillMatch$Boxes", name := "orderedOnes", desc := "()I" } : Jvm.MethodName) ({ cls := "BillMatch$Boxes", name := "orderedOnes", desc := "()I" } : Jvm.MethodName)) ∈ TB := tb_in (i := 258) (by decide +kernel) (by decide +kernel)
theorem mw_259 : (Jvm.Cond.code ({ cls := "BillMatch$Boxes", name := "orderedOnes", desc := "()I" } : Jvm.MethodName) prog_3_method_19_code (3 : Nat) (Option.some Jvm.ClassFile.FieldType.int)) ∈ TB := tb_in (i := 259) (by decide +kernel) (by decide +kernel)
theorem mw_260 : (Jvm.Cond.methodLink "BillMatch$Boxes" (66 : Nat) ({ cls := "BillMatch$Boxes", name := "isOrdered", desc := "(I)Z" } : Jvm.MethodName)) ∈ TB := tb_in (i := 260) (by decide +kernel) (by decide +kernel)
theorem mw_261 : (Jvm.Cond.methodLink "BillMatch" (246 : Nat) ({ cls := "BillMatch$Boxes", name := "landedOnes", desc := "()I" } : Jvm.MethodName)) ∈ TB := tb_in (i := 261) (by decide +kernel) (by decide +kernel)
theorem mw_262 : (Jvm.Cond.instanceMethod ({ cls := "BillMatch$Boxes", name := "landedOnes", desc := "()I" } : Jvm.MethodName)) ∈ TB := tb_in (i := 262) (by decide +kernel) (by decide +kernel)
theorem mw_263 : (Jvm.Cond.selects "BillMatch$Boxes" ({ cls := "BillMatch$Boxes", name := "landedOnes", desc := "()I" } : Jvm.MethodName) ({ cls := "BillMatch$Boxes", name := "landedOnes", desc := "()I" } : Jvm.MethodName)) ∈ TB := tb_in (i := 263) (by decide +kernel) (by decide +kernel)
theorem mw_264 : (Jvm.Cond.code ({ cls := "BillMatch$Boxes", name := "landedOnes", desc := "()I" } : Jvm.MethodName) prog_3_method_18_code (3 : Nat) (Option.some Jvm.ClassFile.FieldType.int)) ∈ TB := tb_in (i := 264) (by decide +kernel) (by decide +kernel)
theorem mw_265 : (Jvm.Cond.methodLink "BillMatch" (249 : Nat) ({ cls := "BillMatch$Boxes", name := "waitingOnes", desc := "()I" } : Jvm.MethodName)) ∈ TB := tb_in (i := 265) (by decide +kernel) (by decide +kernel)
theorem mw_266 : (Jvm.Cond.instanceMethod ({ cls := "BillMatch$Boxes", name := "waitingOnes", desc := "()I" } : Jvm.MethodName)) ∈ TB := tb_in (i := 266) (by decide +kernel) (by decide +kernel)
theorem mw_267 : (Jvm.Cond.selects "BillMatch$Boxes" ({ cls := "BillMatch$Boxes", name := "waitingOnes", desc := "()I" } : Jvm.MethodName) ({ cls := "BillMatch$Boxes", name := "waitingOnes", desc := "()I" } : Jvm.MethodName)) ∈ TB := tb_in (i := 267) (by decide +kernel) (by decide +kernel)
theorem mw_268 : (Jvm.Cond.code ({ cls := "BillMatch$Boxes", name := "waitingOnes", desc := "()I" } : Jvm.MethodName) prog_3_method_20_code (3 : Nat) (Option.some Jvm.ClassFile.FieldType.int)) ∈ TB := tb_in (i := 268) (by decide +kernel) (by decide +kernel)
theorem mw_269 : (Jvm.Cond.methodLink "BillMatch$Boxes" (69 : Nat) ({ cls := "BillMatch$Boxes", name := "isWaiting", desc := "(I)Z" } : Jvm.MethodName)) ∈ TB := tb_in (i := 269) (by decide +kernel) (by decide +kernel)
theorem mw_270 : (Jvm.Cond.methodLink "BillMatch" (252 : Nat) ({ cls := "BillMatch", name := "mastersThatDiffer", desc := "()I" } : Jvm.MethodName)) ∈ TB := tb_in (i := 270) (by decide +kernel) (by decide +kernel)
theorem mw_272 : (Jvm.Cond.instanceMethod ({ cls := "BillMatch", name := "mastersThatDiffer", desc := "()I" } : Jvm.MethodName)) ∈ TB := tb_in (i := 272) (by decide +kernel) (by decide +kernel)
theorem mw_273 : (Jvm.Cond.code ({ cls := "BillMatch", name := "mastersThatDiffer", desc := "()I" } : Jvm.MethodName) prog_1_method_20_code (3 : Nat) (Option.some Jvm.ClassFile.FieldType.int)) ∈ TB := tb_in (i := 273) (by decide +kernel) (by decide +kernel)
theorem mw_274 : (Jvm.Cond.methodLink "BillMatch" (255 : Nat) ({ cls := "BillMatch", name := "someOneDiffers", desc := "(I)Z" } : Jvm.MethodName)) ∈ TB := tb_in (i := 274) (by decide +kernel) (by decide +kernel)
theorem mw_276 : (Jvm.Cond.instanceMethod ({ cls := "BillMatch", name := "someOneDiffers", desc := "(I)Z" } : Jvm.MethodName)) ∈ TB := tb_in (i := 276) (by decide +kernel) (by decide +kernel)
theorem mw_277 : (Jvm.Cond.code ({ cls := "BillMatch", name := "someOneDiffers", desc := "(I)Z" } : Jvm.MethodName) prog_1_method_21_code (3 : Nat) (Option.some Jvm.ClassFile.FieldType.boolean)) ∈ TB := tb_in (i := 277) (by decide +kernel) (by decide +kernel)
theorem mw_278 : (Jvm.Cond.methodLink "BillMatch" (197 : Nat) ({ cls := "BillMatch", name := "difference", desc := "(I)I" } : Jvm.MethodName)) ∈ TB := tb_in (i := 278) (by decide +kernel) (by decide +kernel)
theorem mw_280 : (Jvm.Cond.instanceMethod ({ cls := "BillMatch", name := "difference", desc := "(I)I" } : Jvm.MethodName)) ∈ TB := tb_in (i := 280) (by decide +kernel) (by decide +kernel)
theorem mw_281 : (Jvm.Cond.code ({ cls := "BillMatch", name := "difference", desc := "(I)I" } : Jvm.MethodName) prog_1_method_19_code (5 : Nat) (Option.some Jvm.ClassFile.FieldType.int)) ∈ TB := tb_in (i := 281) (by decide +kernel) (by decide +kernel)
theorem mw_282 : (Jvm.Cond.methodLink "BillMatchLaw" (53 : Nat) ({ cls := "BillMatchLaw", name := "bill", desc := "(LBillMatch;III[J)I" } : Jvm.MethodName)) ∈ TB := tb_in (i := 282) (by decide +kernel) (by decide +kernel)
theorem mw_283 : (Jvm.Cond.static ({ cls := "BillMatchLaw", name := "bill", desc := "(LBillMatch;III[J)I" } : Jvm.MethodName)) ∈ TB := tb_in (i := 283) (by decide +kernel) (by decide +kernel)
theorem mw_284 : (Jvm.Cond.codeWith ({ cls := "BillMatchLaw", name := "bill", desc := "(LBillMatch;III[J)I" } : Jvm.MethodName) method_3_code (6 : Nat) (Option.some Jvm.ClassFile.FieldType.int) [((0 : Nat), (12 : Nat), (15 : Nat), (13 : Nat)), ((0 : Nat), (12 : Nat), (19 : Nat), (15 : Nat))]) ∈ TB := tb_in (i := 284) (by decide +kernel) (by decide +kernel)
theorem mw_285 : (Jvm.Cond.classLink "BillMatchLaw" (13 : Nat) "java/lang/IllegalArgumentException") ∈ TB := tb_in (i := 285) (by decide +kernel) (by decide +kernel)
theorem mw_286 : (Jvm.Cond.classLink "BillMatchLaw" (15 : Nat) "java/lang/IllegalStateException") ∈ TB := tb_in (i := 286) (by decide +kernel) (by decide +kernel)
theorem mw_287 : (Jvm.Cond.methodLink "BillMatchLaw" (7 : Nat) ({ cls := "BillMatch", name := "bill", desc := "(III)I" } : Jvm.MethodName)) ∈ TB := tb_in (i := 287) (by decide +kernel) (by decide +kernel)
theorem mw_288 : (Jvm.Cond.instanceMethod ({ cls := "BillMatch", name := "bill", desc := "(III)I" } : Jvm.MethodName)) ∈ TB := tb_in (i := 288) (by decide +kernel) (by decide +kernel)
theorem mw_289 : (Jvm.Cond.selects "BillMatch" ({ cls := "BillMatch", name := "bill", desc := "(III)I" } : Jvm.MethodName) ({ cls := "BillMatch", name := "bill", desc := "(III)I" } : Jvm.MethodName)) ∈ TB := tb_in (i := 289) (by decide +kernel) (by decide +kernel)
theorem mw_290 : (Jvm.Cond.code ({ cls := "BillMatch", name := "bill", desc := "(III)I" } : Jvm.MethodName) prog_1_method_2_code (4 : Nat) (Option.some Jvm.ClassFile.FieldType.int)) ∈ TB := tb_in (i := 290) (by decide +kernel) (by decide +kernel)
theorem mw_291 : (Jvm.Cond.methodLink "BillMatch" (41 : Nat) ({ cls := "BillMatch", name := "isNumber", desc := "(I)Z" } : Jvm.MethodName)) ∈ TB := tb_in (i := 291) (by decide +kernel) (by decide +kernel)
theorem mw_292 : (Jvm.Cond.static ({ cls := "BillMatch", name := "isNumber", desc := "(I)Z" } : Jvm.MethodName)) ∈ TB := tb_in (i := 292) (by decide +kernel) (by decide +kernel)
theorem mw_293 : (Jvm.Cond.code ({ cls := "BillMatch", name := "isNumber", desc := "(I)Z" } : Jvm.MethodName) prog_1_method_23_code (1 : Nat) (Option.some Jvm.ClassFile.FieldType.boolean)) ∈ TB := tb_in (i := 293) (by decide +kernel) (by decide +kernel)
theorem mw_294 : (Jvm.Cond.constant "BillMatch" (258 : Nat) (99999999 : Int32)) ∈ TB := tb_in (i := 294) (by decide +kernel) (by decide +kernel)
theorem mw_295 : (Jvm.Cond.classLink "BillMatch" (44 : Nat) "java/lang/IllegalArgumentException") ∈ TB := tb_in (i := 295) (by decide +kernel) (by decide +kernel)
theorem mw_296 : (Jvm.Cond.instantiable "java/lang/IllegalArgumentException" (6 : Nat)) ∈ TB := tb_in (i := 296) (by decide +kernel) (by decide +kernel)
theorem mw_304 : (Jvm.Cond.selects "java/lang/IllegalArgumentException" ({ cls := "java/lang/Throwable", name := "fillInStackTrace", desc := "(I)Ljava/lang/Throwable;" } : Jvm.MethodName) ({ cls := "java/lang/Throwable", name := "fillInStackTrace", desc := "(I)Ljava/lang/Throwable;" } : Jvm.MethodName)) ∈ TB := tb_in (i := 304) (by decide +kernel) (by decide +kernel)
theorem mw_305 : (Jvm.Cond.selects "java/lang/IllegalArgumentException" ({ cls := "java/lang/Throwable", name := "fillInStackTrace", desc := "()Ljava/lang/Throwable;" } : Jvm.MethodName) ({ cls := "java/lang/Throwable", name := "fillInStackTrace", desc := "()Ljava/lang/Throwable;" } : Jvm.MethodName)) ∈ TB := tb_in (i := 305) (by decide +kernel) (by decide +kernel)
theorem mw_316 : (Jvm.Cond.fieldLink "java/lang/Throwable" (198 : Nat) "java/lang/Throwable" "backtrace" "Ljava/lang/Object;") ∈ TB := tb_in (i := 316) (by decide +kernel) (by decide +kernel)
theorem mw_318 : (Jvm.Cond.instanceMethod ({ cls := "java/lang/Throwable", name := "<init>", desc := "()V" } : Jvm.MethodName)) ∈ TB := tb_in (i := 318) (by decide +kernel) (by decide +kernel)
theorem mw_319 : (Jvm.Cond.code ({ cls := "java/lang/Throwable", name := "<init>", desc := "()V" } : Jvm.MethodName) prog_15_method_1_code (1 : Nat) (Option.none : Option Jvm.ClassFile.FieldType)) ∈ TB := tb_in (i := 319) (by decide +kernel) (by decide +kernel)
theorem mw_320 : (Jvm.Cond.methodLink "java/lang/Throwable" (1 : Nat) ({ cls := "java/lang/Object", name := "<init>", desc := "()V" } : Jvm.MethodName)) ∈ TB := tb_in (i := 320) (by decide +kernel) (by decide +kernel)
theorem mw_321 : (Jvm.Cond.fieldLink "java/lang/Throwable" (13 : Nat) "java/lang/Throwable" "UNASSIGNED_STACK" "[Ljava/lang/StackTraceElement;") ∈ TB := tb_in (i := 321) (by decide +kernel) (by decide +kernel)
theorem mw_323 : (Jvm.Cond.fieldLink "java/lang/Throwable" (20 : Nat) "java/lang/Throwable" "SUPPRESSED_SENTINEL" "Ljava/util/List;") ∈ TB := tb_in (i := 323) (by decide +kernel) (by decide +kernel)
theorem mw_325 : (Jvm.Cond.methodLink "java/lang/Throwable" (27 : Nat) ({ cls := "java/lang/Throwable", name := "fillInStackTrace", desc := "()Ljava/lang/Throwable;" } : Jvm.MethodName)) ∈ TB := tb_in (i := 325) (by decide +kernel) (by decide +kernel)
theorem mw_326 : (Jvm.Cond.instanceMethod ({ cls := "java/lang/Throwable", name := "fillInStackTrace", desc := "()Ljava/lang/Throwable;" } : Jvm.MethodName)) ∈ TB := tb_in (i := 326) (by decide +kernel) (by decide +kernel)
theorem mw_328 : (Jvm.Cond.selects "java/lang/IllegalStateException" ({ cls := "java/lang/Throwable", name := "fillInStackTrace", desc := "()Ljava/lang/Throwable;" } : Jvm.MethodName) ({ cls := "java/lang/Throwable", name := "fillInStackTrace", desc := "()Ljava/lang/Throwable;" } : Jvm.MethodName)) ∈ TB := tb_in (i := 328) (by decide +kernel) (by decide +kernel)
theorem mw_329 : (Jvm.Cond.selects "java/lang/IndexOutOfBoundsException" ({ cls := "java/lang/Throwable", name := "fillInStackTrace", desc := "()Ljava/lang/Throwable;" } : Jvm.MethodName) ({ cls := "java/lang/Throwable", name := "fillInStackTrace", desc := "()Ljava/lang/Throwable;" } : Jvm.MethodName)) ∈ TB := tb_in (i := 329) (by decide +kernel) (by decide +kernel)
theorem mw_330 : (Jvm.Cond.selects "java/util/NoSuchElementException" ({ cls := "java/lang/Throwable", name := "fillInStackTrace", desc := "()Ljava/lang/Throwable;" } : Jvm.MethodName) ({ cls := "java/lang/Throwable", name := "fillInStackTrace", desc := "()Ljava/lang/Throwable;" } : Jvm.MethodName)) ∈ TB := tb_in (i := 330) (by decide +kernel) (by decide +kernel)
theorem mw_332 : (Jvm.Cond.methodLink "java/lang/Throwable" (202 : Nat) ({ cls := "java/lang/Throwable", name := "fillInStackTrace", desc := "(I)Ljava/lang/Throwable;" } : Jvm.MethodName)) ∈ TB := tb_in (i := 332) (by decide +kernel) (by decide +kernel)
theorem mw_334 : (Jvm.Cond.instanceMethod ({ cls := "java/lang/Throwable", name := "fillInStackTrace", desc := "(I)Ljava/lang/Throwable;" } : Jvm.MethodName)) ∈ TB := tb_in (i := 334) (by decide +kernel) (by decide +kernel)
theorem mw_335 : (Jvm.Cond.instantiable "java/lang/Throwable" (6 : Nat)) ∈ TB := tb_in (i := 335) (by decide +kernel) (by decide +kernel)
theorem mw_338 : (Jvm.Cond.methodLink "BillMatch" (48 : Nat) ({ cls := "java/lang/IllegalArgumentException", name := "<init>", desc := "(Ljava/lang/String;)V" } : Jvm.MethodName)) ∈ TB := tb_in (i := 338) (by decide +kernel) (by decide +kernel)
theorem mw_339 : (Jvm.Cond.instanceMethod ({ cls := "java/lang/IllegalArgumentException", name := "<init>", desc := "(Ljava/lang/String;)V" } : Jvm.MethodName)) ∈ TB := tb_in (i := 339) (by decide +kernel) (by decide +kernel)
theorem mw_340 : (Jvm.Cond.code ({ cls := "java/lang/IllegalArgumentException", name := "<init>", desc := "(Ljava/lang/String;)V" } : Jvm.MethodName) prog_8_method_2_code (2 : Nat) (Option.none : Option Jvm.ClassFile.FieldType)) ∈ TB := tb_in (i := 340) (by decide +kernel) (by decide +kernel)
theorem mw_341 : (Jvm.Cond.methodLink "java/lang/IllegalArgumentException" (7 : Nat) ({ cls := "java/lang/RuntimeException", name := "<init>", desc := "(Ljava/lang/String;)V" } : Jvm.MethodName)) ∈ TB := tb_in (i := 341) (by decide +kernel) (by decide +kernel)
theorem mw_342 : (Jvm.Cond.instanceMethod ({ cls := "java/lang/RuntimeException", name := "<init>", desc := "(Ljava/lang/String;)V" } : Jvm.MethodName)) ∈ TB := tb_in (i := 342) (by decide +kernel) (by decide +kernel)
theorem mw_343 : (Jvm.Cond.code ({ cls := "java/lang/RuntimeException", name := "<init>", desc := "(Ljava/lang/String;)V" } : Jvm.MethodName) prog_13_method_2_code (2 : Nat) (Option.none : Option Jvm.ClassFile.FieldType)) ∈ TB := tb_in (i := 343) (by decide +kernel) (by decide +kernel)
theorem mw_344 : (Jvm.Cond.methodLink "java/lang/RuntimeException" (7 : Nat) ({ cls := "java/lang/Exception", name := "<init>", desc := "(Ljava/lang/String;)V" } : Jvm.MethodName)) ∈ TB := tb_in (i := 344) (by decide +kernel) (by decide +kernel)
theorem mw_345 : (Jvm.Cond.instanceMethod ({ cls := "java/lang/Exception", name := "<init>", desc := "(Ljava/lang/String;)V" } : Jvm.MethodName)) ∈ TB := tb_in (i := 345) (by decide +kernel) (by decide +kernel)
theorem mw_346 : (Jvm.Cond.code ({ cls := "java/lang/Exception", name := "<init>", desc := "(Ljava/lang/String;)V" } : Jvm.MethodName) prog_7_method_2_code (2 : Nat) (Option.none : Option Jvm.ClassFile.FieldType)) ∈ TB := tb_in (i := 346) (by decide +kernel) (by decide +kernel)
theorem mw_347 : (Jvm.Cond.methodLink "java/lang/Exception" (7 : Nat) ({ cls := "java/lang/Throwable", name := "<init>", desc := "(Ljava/lang/String;)V" } : Jvm.MethodName)) ∈ TB := tb_in (i := 347) (by decide +kernel) (by decide +kernel)
theorem mw_348 : (Jvm.Cond.instanceMethod ({ cls := "java/lang/Throwable", name := "<init>", desc := "(Ljava/lang/String;)V" } : Jvm.MethodName)) ∈ TB := tb_in (i := 348) (by decide +kernel) (by decide +kernel)
theorem mw_349 : (Jvm.Cond.code ({ cls := "java/lang/Throwable", name := "<init>", desc := "(Ljava/lang/String;)V" } : Jvm.MethodName) prog_15_method_2_code (2 : Nat) (Option.none : Option Jvm.ClassFile.FieldType)) ∈ TB := tb_in (i := 349) (by decide +kernel) (by decide +kernel)
theorem mw_350 : (Jvm.Cond.fieldLink "java/lang/Throwable" (198 : Nat) "java/lang/Throwable" "backtrace" "Ljava/lang/Object;") ∈ TB := tb_in (i := 350) (by decide +kernel) (by decide +kernel)
theorem mw_351 : (Jvm.Cond.fieldLink "java/lang/Throwable" (31 : Nat) "java/lang/Throwable" "detailMessage" "Ljava/lang/String;") ∈ TB := tb_in (i := 351) (by decide +kernel) (by decide +kernel)
theorem mw_352 : (Jvm.Cond.fieldLink "java/lang/Throwable" (7 : Nat) "java/lang/Throwable" "cause" "Ljava/lang/Throwable;") ∈ TB := tb_in (i := 352) (by decide +kernel) (by decide +kernel)
theorem mw_353 : (Jvm.Cond.fieldLink "java/lang/Throwable" (17 : Nat) "java/lang/Throwable" "stackTrace" "[Ljava/lang/StackTraceElement;") ∈ TB := tb_in (i := 353) (by decide +kernel) (by decide +kernel)
theorem mw_354 : (Jvm.Cond.fieldLink "java/lang/Throwable" (24 : Nat) "java/lang/Throwable" "suppressedExceptions" "Ljava/util/List;") ∈ TB := tb_in (i := 354) (by decide +kernel) (by decide +kernel)
theorem mw_363 : (Jvm.Cond.arrayClass Jvm.ClassFile.FieldType.byte) ∈ TB := tb_in (i := 363) (by decide +kernel) (by decide +kernel)
theorem mw_364 : (Jvm.Cond.methodLink "BillMatch" (51 : Nat) ({ cls := "BillMatch$Bills", name := "isFull", desc := "()Z" } : Jvm.MethodName)) ∈ TB := tb_in (i := 364) (by decide +kernel) (by decide +kernel)
theorem mw_365 : (Jvm.Cond.instanceMethod ({ cls := "BillMatch$Bills", name := "isFull", desc := "()Z" } : Jvm.MethodName)) ∈ TB := tb_in (i := 365) (by decide +kernel) (by decide +kernel)
theorem mw_366 : (Jvm.Cond.selects "BillMatch$Bills" ({ cls := "BillMatch$Bills", name := "isFull", desc := "()Z" } : Jvm.MethodName) ({ cls := "BillMatch$Bills", name := "isFull", desc := "()Z" } : Jvm.MethodName)) ∈ TB := tb_in (i := 366) (by decide +kernel) (by decide +kernel)
theorem mw_367 : (Jvm.Cond.code ({ cls := "BillMatch$Bills", name := "isFull", desc := "()Z" } : Jvm.MethodName) prog_2_method_3_code (1 : Nat) (Option.some Jvm.ClassFile.FieldType.boolean)) ∈ TB := tb_in (i := 367) (by decide +kernel) (by decide +kernel)
theorem mw_368 : (Jvm.Cond.classLink "BillMatch" (55 : Nat) "java/lang/IllegalStateException") ∈ TB := tb_in (i := 368) (by decide +kernel) (by decide +kernel)
theorem mw_369 : (Jvm.Cond.instantiable "java/lang/IllegalStateException" (6 : Nat)) ∈ TB := tb_in (i := 369) (by decide +kernel) (by decide +kernel)
theorem mw_371 : (Jvm.Cond.selects "java/lang/IllegalStateException" ({ cls := "java/lang/Throwable", name := "fillInStackTrace", desc := "(I)Ljava/lang/Throwable;" } : Jvm.MethodName) ({ cls := "java/lang/Throwable", name := "fillInStackTrace", desc := "(I)Ljava/lang/Throwable;" } : Jvm.MethodName)) ∈ TB := tb_in (i := 371) (by decide +kernel) (by decide +kernel)
theorem mw_378 : (Jvm.Cond.methodLink "BillMatch" (59 : Nat) ({ cls := "java/lang/IllegalStateException", name := "<init>", desc := "(Ljava/lang/String;)V" } : Jvm.MethodName)) ∈ TB := tb_in (i := 378) (by decide +kernel) (by decide +kernel)
theorem mw_379 : (Jvm.Cond.instanceMethod ({ cls := "java/lang/IllegalStateException", name := "<init>", desc := "(Ljava/lang/String;)V" } : Jvm.MethodName)) ∈ TB := tb_in (i := 379) (by decide +kernel) (by decide +kernel)
theorem mw_380 : (Jvm.Cond.code ({ cls := "java/lang/IllegalStateException", name := "<init>", desc := "(Ljava/lang/String;)V" } : Jvm.MethodName) prog_9_method_2_code (2 : Nat) (Option.none : Option Jvm.ClassFile.FieldType)) ∈ TB := tb_in (i := 380) (by decide +kernel) (by decide +kernel)
theorem mw_381 : (Jvm.Cond.methodLink "java/lang/IllegalStateException" (7 : Nat) ({ cls := "java/lang/RuntimeException", name := "<init>", desc := "(Ljava/lang/String;)V" } : Jvm.MethodName)) ∈ TB := tb_in (i := 381) (by decide +kernel) (by decide +kernel)
theorem mw_384 : (Jvm.Cond.methodLink "BillMatch" (60 : Nat) ({ cls := "BillMatch$Bills", name := "mayStandUnder", desc := "(II)Z" } : Jvm.MethodName)) ∈ TB := tb_in (i := 384) (by decide +kernel) (by decide +kernel)
theorem mw_385 : (Jvm.Cond.instanceMethod ({ cls := "BillMatch$Bills", name := "mayStandUnder", desc := "(II)Z" } : Jvm.MethodName)) ∈ TB := tb_in (i := 385) (by decide +kernel) (by decide +kernel)
theorem mw_386 : (Jvm.Cond.selects "BillMatch$Bills" ({ cls := "BillMatch$Bills", name := "mayStandUnder", desc := "(II)Z" } : Jvm.MethodName) ({ cls := "BillMatch$Bills", name := "mayStandUnder", desc := "(II)Z" } : Jvm.MethodName)) ∈ TB := tb_in (i := 386) (by decide +kernel) (by decide +kernel)
theorem mw_387 : (Jvm.Cond.code ({ cls := "BillMatch$Bills", name := "mayStandUnder", desc := "(II)Z" } : Jvm.MethodName) prog_2_method_6_code (3 : Nat) (Option.some Jvm.ClassFile.FieldType.boolean)) ∈ TB := tb_in (i := 387) (by decide +kernel) (by decide +kernel)
theorem mw_388 : (Jvm.Cond.methodLink "BillMatch$Bills" (37 : Nat) ({ cls := "BillMatch$Bills", name := "has", desc := "(I)Z" } : Jvm.MethodName)) ∈ TB := tb_in (i := 388) (by decide +kernel) (by decide +kernel)
theorem mw_389 : (Jvm.Cond.methodLink "BillMatch$Bills" (41 : Nat) ({ cls := "BillMatch$Bills", name := "isOrdered", desc := "(I)Z" } : Jvm.MethodName)) ∈ TB := tb_in (i := 389) (by decide +kernel) (by decide +kernel)
theorem mw_390 : (Jvm.Cond.instanceMethod ({ cls := "BillMatch$Bills", name := "isOrdered", desc := "(I)Z" } : Jvm.MethodName)) ∈ TB := tb_in (i := 390) (by decide +kernel) (by decide +kernel)
theorem mw_391 : (Jvm.Cond.selects "BillMatch$Bills" ({ cls := "BillMatch$Bills", name := "isOrdered", desc := "(I)Z" } : Jvm.MethodName) ({ cls := "BillMatch$Bills", name := "isOrdered", desc := "(I)Z" } : Jvm.MethodName)) ∈ TB := tb_in (i := 391) (by decide +kernel) (by decide +kernel)
theorem mw_392 : (Jvm.Cond.code ({ cls := "BillMatch$Bills", name := "isOrdered", desc := "(I)Z" } : Jvm.MethodName) prog_2_method_4_code (2 : Nat) (Option.some Jvm.ClassFile.FieldType.boolean)) ∈ TB := tb_in (i := 392) (by decide +kernel) (by decide +kernel)
theorem mw_393 : (Jvm.Cond.methodLink "BillMatch" (64 : Nat) ({ cls := "BillMatch$Bills", name := "isTaken", desc := "(II)Z" } : Jvm.MethodName)) ∈ TB := tb_in (i := 393) (by decide +kernel) (by decide +kernel)
theorem mw_394 : (Jvm.Cond.instanceMethod ({ cls := "BillMatch$Bills", name := "isTaken", desc := "(II)Z" } : Jvm.MethodName)) ∈ TB := tb_in (i := 394) (by decide +kernel) (by decide +kernel)
theorem mw_395 : (Jvm.Cond.selects "BillMatch$Bills" ({ cls := "BillMatch$Bills", name := "isTaken", desc := "(II)Z" } : Jvm.MethodName) ({ cls := "BillMatch$Bills", name := "isTaken", desc := "(II)Z" } : Jvm.MethodName)) ∈ TB := tb_in (i := 395) (by decide +kernel) (by decide +kernel)
theorem mw_396 : (Jvm.Cond.code ({ cls := "BillMatch$Bills", name := "isTaken", desc := "(II)Z" } : Jvm.MethodName) prog_2_method_5_code (4 : Nat) (Option.some Jvm.ClassFile.FieldType.boolean)) ∈ TB := tb_in (i := 396) (by decide +kernel) (by decide +kernel)
theorem mw_397 : (Jvm.Cond.methodLink "BillMatch" (67 : Nat) ({ cls := "BillMatch$Bills", name := "add", desc := "(IIII)I" } : Jvm.MethodName)) ∈ TB := tb_in (i := 397) (by decide +kernel) (by decide +kernel)
theorem mw_398 : (Jvm.Cond.instanceMethod ({ cls := "BillMatch$Bills", name := "add", desc := "(IIII)I" } : Jvm.MethodName)) ∈ TB := tb_in (i := 398) (by decide +kernel) (by decide +kernel)
theorem mw_399 : (Jvm.Cond.selects "BillMatch$Bills" ({ cls := "BillMatch$Bills", name := "add", desc := "(IIII)I" } : Jvm.MethodName) ({ cls := "BillMatch$Bills", name := "add", desc := "(IIII)I" } : Jvm.MethodName)) ∈ TB := tb_in (i := 399) (by decide +kernel) (by decide +kernel)
theorem mw_400 : (Jvm.Cond.code ({ cls := "BillMatch$Bills", name := "add", desc := "(IIII)I" } : Jvm.MethodName) prog_2_method_7_code (6 : Nat) (Option.some Jvm.ClassFile.FieldType.int)) ∈ TB := tb_in (i := 400) (by decide +kernel) (by decide +kernel)
theorem mw_401 : (Jvm.Cond.methodLink "BillMatchLaw" (63 : Nat) ({ cls := "BillMatchLaw", name := "line", desc := "(LBillMatch;III[J)I" } : Jvm.MethodName)) ∈ TB := tb_in (i := 401) (by decide +kernel) (by decide +kernel)
theorem mw_402 : (Jvm.Cond.static ({ cls := "BillMatchLaw", name := "line", desc := "(LBillMatch;III[J)I" } : Jvm.MethodName)) ∈ TB := tb_in (i := 402) (by decide +kernel) (by decide +kernel)
theorem mw_403 : (Jvm.Cond.codeWith ({ cls := "BillMatchLaw", name := "line", desc := "(LBillMatch;III[J)I" } : Jvm.MethodName) method_4_code (6 : Nat) (Option.some Jvm.ClassFile.FieldType.int) [((0 : Nat), (12 : Nat), (15 : Nat), (13 : Nat)), ((0 : Nat), (12 : Nat), (19 : Nat), (15 : Nat))]) ∈ TB := tb_in (i := 403) (by decide +kernel) (by decide +kernel)
theorem mw_404 : (Jvm.Cond.methodLink "BillMatchLaw" (17 : Nat) ({ cls := "BillMatch", name := "line", desc := "(III)I" } : Jvm.MethodName)) ∈ TB := tb_in (i := 404) (by decide +kernel) (by decide +kernel)
theorem mw_405 : (Jvm.Cond.instanceMethod ({ cls := "BillMatch", name := "line", desc := "(III)I" } : Jvm.MethodName)) ∈ TB := tb_in (i := 405) (by decide +kernel) (by decide +kernel)
theorem mw_406 : (Jvm.Cond.selects "BillMatch" ({ cls := "BillMatch", name := "line", desc := "(III)I" } : Jvm.MethodName) ({ cls := "BillMatch", name := "line", desc := "(III)I" } : Jvm.MethodName)) ∈ TB := tb_in (i := 406) (by decide +kernel) (by decide +kernel)
theorem mw_407 : (Jvm.Cond.code ({ cls := "BillMatch", name := "line", desc := "(III)I" } : Jvm.MethodName) prog_1_method_3_code (4 : Nat) (Option.some Jvm.ClassFile.FieldType.int)) ∈ TB := tb_in (i := 407) (by decide +kernel) (by decide +kernel)
theorem mw_409 : (Jvm.Cond.methodLink "BillMatch" (79 : Nat) ({ cls := "BillMatch$Lines", name := "isFull", desc := "()Z" } : Jvm.MethodName)) ∈ TB := tb_in (i := 409) (by decide +kernel) (by decide +kernel)
theorem mw_410 : (Jvm.Cond.instanceMethod ({ cls := "BillMatch$Lines", name := "isFull", desc := "()Z" } : Jvm.MethodName)) ∈ TB := tb_in (i := 410) (by decide +kernel) (by decide +kernel)
theorem mw_411 : (Jvm.Cond.selects "BillMatch$Lines" ({ cls := "BillMatch$Lines", name := "isFull", desc := "()Z" } : Jvm.MethodName) ({ cls := "BillMatch$Lines", name := "isFull", desc := "()Z" } : Jvm.MethodName)) ∈ TB := tb_in (i := 411) (by decide +kernel) (by decide +kernel)
theorem mw_412 : (Jvm.Cond.code ({ cls := "BillMatch$Lines", name := "isFull", desc := "()Z" } : Jvm.MethodName) prog_4_method_2_code (1 : Nat) (Option.some Jvm.ClassFile.FieldType.boolean)) ∈ TB := tb_in (i := 412) (by decide +kernel) (by decide +kernel)
theorem mw_414 : (Jvm.Cond.methodLink "BillMatch" (82 : Nat) ({ cls := "BillMatch$Lines", name := "add", desc := "(III)I" } : Jvm.MethodName)) ∈ TB := tb_in (i := 414) (by decide +kernel) (by decide +kernel)
theorem mw_415 : (Jvm.Cond.instanceMethod ({ cls := "BillMatch$Lines", name := "add", desc := "(III)I" } : Jvm.MethodName)) ∈ TB := tb_in (i := 415) (by decide +kernel) (by decide +kernel)
theorem mw_416 : (Jvm.Cond.selects "BillMatch$Lines" ({ cls := "BillMatch$Lines", name := "add", desc := "(III)I" } : Jvm.MethodName) ({ cls := "BillMatch$Lines", name := "add", desc := "(III)I" } : Jvm.MethodName)) ∈ TB := tb_in (i := 416) (by decide +kernel) (by decide +kernel)
theorem mw_417 : (Jvm.Cond.code ({ cls := "BillMatch$Lines", name := "add", desc := "(III)I" } : Jvm.MethodName) prog_4_method_3_code (4 : Nat) (Option.some Jvm.ClassFile.FieldType.int)) ∈ TB := tb_in (i := 417) (by decide +kernel) (by decide +kernel)
theorem mw_418 : (Jvm.Cond.methodLink "BillMatchLaw" (66 : Nat) ({ cls := "BillMatchLaw", name := "box", desc := "(LBillMatch;III[J)I" } : Jvm.MethodName)) ∈ TB := tb_in (i := 418) (by decide +kernel) (by decide +kernel)
theorem mw_419 : (Jvm.Cond.static ({ cls := "BillMatchLaw", name := "box", desc := "(LBillMatch;III[J)I" } : Jvm.MethodName)) ∈ TB := tb_in (i := 419) (by decide +kernel) (by decide +kernel)
theorem mw_420 : (Jvm.Cond.codeWith ({ cls := "BillMatchLaw", name := "box", desc := "(LBillMatch;III[J)I" } : Jvm.MethodName) method_5_code (6 : Nat) (Option.some Jvm.ClassFile.FieldType.int) [((0 : Nat), (12 : Nat), (15 : Nat), (13 : Nat)), ((0 : Nat), (12 : Nat), (19 : Nat), (15 : Nat))]) ∈ TB := tb_in (i := 420) (by decide +kernel) (by decide +kernel)
theorem mw_421 : (Jvm.Cond.methodLink "BillMatchLaw" (20 : Nat) ({ cls := "BillMatch", name := "box", desc := "(III)I" } : Jvm.MethodName)) ∈ TB := tb_in (i := 421) (by decide +kernel) (by decide +kernel)
theorem mw_422 : (Jvm.Cond.instanceMethod ({ cls := "BillMatch", name := "box", desc := "(III)I" } : Jvm.MethodName)) ∈ TB := tb_in (i := 422) (by decide +kernel) (by decide +kernel)
theorem mw_423 : (Jvm.Cond.selects "BillMatch" ({ cls := "BillMatch", name := "box", desc := "(III)I" } : Jvm.MethodName) ({ cls := "BillMatch", name := "box", desc := "(III)I" } : Jvm.MethodName)) ∈ TB := tb_in (i := 423) (by decide +kernel) (by decide +kernel)
theorem mw_424 : (Jvm.Cond.code ({ cls := "BillMatch", name := "box", desc := "(III)I" } : Jvm.MethodName) prog_1_method_4_code (4 : Nat) (Option.some Jvm.ClassFile.FieldType.int)) ∈ TB := tb_in (i := 424) (by decide +kernel) (by decide +kernel)
theorem mw_426 : (Jvm.Cond.methodLink "BillMatch" (87 : Nat) ({ cls := "BillMatch$Boxes", name := "isFull", desc := "()Z" } : Jvm.MethodName)) ∈ TB := tb_in (i := 426) (by decide +kernel) (by decide +kernel)
theorem mw_427 : (Jvm.Cond.instanceMethod ({ cls := "BillMatch$Boxes", name := "isFull", desc := "()Z" } : Jvm.MethodName)) ∈ TB := tb_in (i := 427) (by decide +kernel) (by decide +kernel)
theorem mw_428 : (Jvm.Cond.selects "BillMatch$Boxes" ({ cls := "BillMatch$Boxes", name := "isFull", desc := "()Z" } : Jvm.MethodName) ({ cls := "BillMatch$Boxes", name := "isFull", desc := "()Z" } : Jvm.MethodName)) ∈ TB := tb_in (i := 428) (by decide +kernel) (by decide +kernel)
theorem mw_429 : (Jvm.Cond.code ({ cls := "BillMatch$Boxes", name := "isFull", desc := "()Z" } : Jvm.MethodName) prog_3_method_3_code (1 : Nat) (Option.some Jvm.ClassFile.FieldType.boolean)) ∈ TB := tb_in (i := 429) (by decide +kernel) (by decide +kernel)
theorem mw_431 : (Jvm.Cond.methodLink "BillMatch" (90 : Nat) ({ cls := "BillMatch$Boxes", name := "isTaken", desc := "(II)Z" } : Jvm.MethodName)) ∈ TB := tb_in (i := 431) (by decide +kernel) (by decide +kernel)
theorem mw_432 : (Jvm.Cond.instanceMethod ({ cls := "BillMatch$Boxes", name := "isTaken", desc := "(II)Z" } : Jvm.MethodName)) ∈ TB := tb_in (i := 432) (by decide +kernel) (by decide +kernel)
theorem mw_433 : (Jvm.Cond.selects "BillMatch$Boxes" ({ cls := "BillMatch$Boxes", name := "isTaken", desc := "(II)Z" } : Jvm.MethodName) ({ cls := "BillMatch$Boxes", name := "isTaken", desc := "(II)Z" } : Jvm.MethodName)) ∈ TB := tb_in (i := 433) (by decide +kernel) (by decide +kernel)
theorem mw_434 : (Jvm.Cond.code ({ cls := "BillMatch$Boxes", name := "isTaken", desc := "(II)Z" } : Jvm.MethodName) prog_3_method_4_code (4 : Nat) (Option.some Jvm.ClassFile.FieldType.boolean)) ∈ TB := tb_in (i := 434) (by decide +kernel) (by decide +kernel)
theorem mw_435 : (Jvm.Cond.methodLink "BillMatch" (91 : Nat) ({ cls := "BillMatch$Boxes", name := "add", desc := "(III)I" } : Jvm.MethodName)) ∈ TB := tb_in (i := 435) (by decide +kernel) (by decide +kernel)
theorem mw_436 : (Jvm.Cond.instanceMethod ({ cls := "BillMatch$Boxes", name := "add", desc := "(III)I" } : Jvm.MethodName)) ∈ TB := tb_in (i := 436) (by decide +kernel) (by decide +kernel)
theorem mw_437 : (Jvm.Cond.selects "BillMatch$Boxes" ({ cls := "BillMatch$Boxes", name := "add", desc := "(III)I" } : Jvm.MethodName) ({ cls := "BillMatch$Boxes", name := "add", desc := "(III)I" } : Jvm.MethodName)) ∈ TB := tb_in (i := 437) (by decide +kernel) (by decide +kernel)
theorem mw_438 : (Jvm.Cond.code ({ cls := "BillMatch$Boxes", name := "add", desc := "(III)I" } : Jvm.MethodName) prog_3_method_5_code (5 : Nat) (Option.some Jvm.ClassFile.FieldType.int)) ∈ TB := tb_in (i := 438) (by decide +kernel) (by decide +kernel)
theorem mw_439 : (Jvm.Cond.methodLink "BillMatchLaw" (83 : Nat) ({ cls := "BillMatchLaw", name := "amend", desc := "(LBillMatch;III[J)I" } : Jvm.MethodName)) ∈ TB := tb_in (i := 439) (by decide +kernel) (by decide +kernel)
theorem mw_440 : (Jvm.Cond.static ({ cls := "BillMatchLaw", name := "amend", desc := "(LBillMatch;III[J)I" } : Jvm.MethodName)) ∈ TB := tb_in (i := 440) (by decide +kernel) (by decide +kernel)
theorem mw_441 : (Jvm.Cond.codeWith ({ cls := "BillMatchLaw", name := "amend", desc := "(LBillMatch;III[J)I" } : Jvm.MethodName) method_6_code (6 : Nat) (Option.some Jvm.ClassFile.FieldType.int) [((0 : Nat), (12 : Nat), (15 : Nat), (13 : Nat))]) ∈ TB := tb_in (i := 441) (by decide +kernel) (by decide +kernel)
theorem mw_442 : (Jvm.Cond.methodLink "BillMatchLaw" (23 : Nat) ({ cls := "BillMatch", name := "amend", desc := "(III)I" } : Jvm.MethodName)) ∈ TB := tb_in (i := 442) (by decide +kernel) (by decide +kernel)
theorem mw_443 : (Jvm.Cond.instanceMethod ({ cls := "BillMatch", name := "amend", desc := "(III)I" } : Jvm.MethodName)) ∈ TB := tb_in (i := 443) (by decide +kernel) (by decide +kernel)
theorem mw_444 : (Jvm.Cond.selects "BillMatch" ({ cls := "BillMatch", name := "amend", desc := "(III)I" } : Jvm.MethodName) ({ cls := "BillMatch", name := "amend", desc := "(III)I" } : Jvm.MethodName)) ∈ TB := tb_in (i := 444) (by decide +kernel) (by decide +kernel)
theorem mw_445 : (Jvm.Cond.code ({ cls := "BillMatch", name := "amend", desc := "(III)I" } : Jvm.MethodName) prog_1_method_8_code (7 : Nat) (Option.some Jvm.ClassFile.FieldType.int)) ∈ TB := tb_in (i := 445) (by decide +kernel) (by decide +kernel)
theorem mw_446 : (Jvm.Cond.methodLink "BillMatch" (121 : Nat) ({ cls := "BillMatch$Lines", name := "rowOf", desc := "(II)I" } : Jvm.MethodName)) ∈ TB := tb_in (i := 446) (by decide +kernel) (by decide +kernel)
theorem mw_447 : (Jvm.Cond.instanceMethod ({ cls := "BillMatch$Lines", name := "rowOf", desc := "(II)I" } : Jvm.MethodName)) ∈ TB := tb_in (i := 447) (by decide +kernel) (by decide +kernel)
theorem mw_448 : (Jvm.Cond.selects "BillMatch$Lines" ({ cls := "BillMatch$Lines", name := "rowOf", desc := "(II)I" } : Jvm.MethodName) ({ cls := "BillMatch$Lines", name := "rowOf", desc := "(II)I" } : Jvm.MethodName)) ∈ TB := tb_in (i := 448) (by decide +kernel) (by decide +kernel)
theorem mw_449 : (Jvm.Cond.code ({ cls := "BillMatch$Lines", name := "rowOf", desc := "(II)I" } : Jvm.MethodName) prog_4_method_4_code (5 : Nat) (Option.some Jvm.ClassFile.FieldType.int)) ∈ TB := tb_in (i := 449) (by decide +kernel) (by decide +kernel)
theorem mw_451 : (Jvm.Cond.methodLink "BillMatch" (127 : Nat) ({ cls := "BillMatch$Lines", name := "changeWeight", desc := "(II)I" } : Jvm.MethodName)) ∈ TB := tb_in (i := 451) (by decide +kernel) (by decide +kernel)
theorem mw_452 : (Jvm.Cond.instanceMethod ({ cls := "BillMatch$Lines", name := "changeWeight", desc := "(II)I" } : Jvm.MethodName)) ∈ TB := tb_in (i := 452) (by decide +kernel) (by decide +kernel)
theorem mw_453 : (Jvm.Cond.selects "BillMatch$Lines" ({ cls := "BillMatch$Lines", name := "changeWeight", desc := "(II)I" } : Jvm.MethodName) ({ cls := "BillMatch$Lines", name := "changeWeight", desc := "(II)I" } : Jvm.MethodName)) ∈ TB := tb_in (i := 453) (by decide +kernel) (by decide +kernel)
theorem mw_454 : (Jvm.Cond.code ({ cls := "BillMatch$Lines", name := "changeWeight", desc := "(II)I" } : Jvm.MethodName) prog_4_method_5_code (4 : Nat) (Option.some Jvm.ClassFile.FieldType.int)) ∈ TB := tb_in (i := 454) (by decide +kernel) (by decide +kernel)
theorem mw_455 : (Jvm.Cond.methodLink "BillMatch" (130 : Nat) ({ cls := "java/lang/Math", name := "abs", desc := "(I)I" } : Jvm.MethodName)) ∈ TB := tb_in (i := 455) (by decide +kernel) (by decide +kernel)
theorem mw_456 : (Jvm.Cond.static ({ cls := "java/lang/Math", name := "abs", desc := "(I)I" } : Jvm.MethodName)) ∈ TB := tb_in (i := 456) (by decide +kernel) (by decide +kernel)
theorem mw_457 : (Jvm.Cond.code ({ cls := "java/lang/Math", name := "abs", desc := "(I)I" } : Jvm.MethodName) prog_12_method_59_code (1 : Nat) (Option.some Jvm.ClassFile.FieldType.int)) ∈ TB := tb_in (i := 457) (by decide +kernel) (by decide +kernel)
theorem mw_458 : (Jvm.Cond.methodLink "BillMatchLaw" (86 : Nat) ({ cls := "BillMatchLaw", name := "title", desc := "(LBillMatch;III[J)I" } : Jvm.MethodName)) ∈ TB := tb_in (i := 458) (by decide +kernel) (by decide +kernel)
theorem mw_459 : (Jvm.Cond.static ({ cls := "BillMatchLaw", name := "title", desc := "(LBillMatch;III[J)I" } : Jvm.MethodName)) ∈ TB := tb_in (i := 459) (by decide +kernel) (by decide +kernel)
theorem mw_460 : (Jvm.Cond.codeWith ({ cls := "BillMatchLaw", name := "title", desc := "(LBillMatch;III[J)I" } : Jvm.MethodName) method_7_code (6 : Nat) (Option.some Jvm.ClassFile.FieldType.int) [((0 : Nat), (12 : Nat), (15 : Nat), (13 : Nat))]) ∈ TB := tb_in (i := 460) (by decide +kernel) (by decide +kernel)
theorem mw_461 : (Jvm.Cond.methodLink "BillMatchLaw" (26 : Nat) ({ cls := "BillMatch", name := "title", desc := "(III)I" } : Jvm.MethodName)) ∈ TB := tb_in (i := 461) (by decide +kernel) (by decide +kernel)
theorem mw_462 : (Jvm.Cond.instanceMethod ({ cls := "BillMatch", name := "title", desc := "(III)I" } : Jvm.MethodName)) ∈ TB := tb_in (i := 462) (by decide +kernel) (by decide +kernel)
theorem mw_463 : (Jvm.Cond.selects "BillMatch" ({ cls := "BillMatch", name := "title", desc := "(III)I" } : Jvm.MethodName) ({ cls := "BillMatch", name := "title", desc := "(III)I" } : Jvm.MethodName)) ∈ TB := tb_in (i := 463) (by decide +kernel) (by decide +kernel)
theorem mw_464 : (Jvm.Cond.code ({ cls := "BillMatch", name := "title", desc := "(III)I" } : Jvm.MethodName) prog_1_method_9_code (4 : Nat) (Option.some Jvm.ClassFile.FieldType.int)) ∈ TB := tb_in (i := 464) (by decide +kernel) (by decide +kernel)
theorem mw_465 : (Jvm.Cond.methodLink "BillMatch" (135 : Nat) ({ cls := "BillMatch", name := "isHolder", desc := "(I)Z" } : Jvm.MethodName)) ∈ TB := tb_in (i := 465) (by decide +kernel) (by decide +kernel)
theorem mw_466 : (Jvm.Cond.static ({ cls := "BillMatch", name := "isHolder", desc := "(I)Z" } : Jvm.MethodName)) ∈ TB := tb_in (i := 466) (by decide +kernel) (by decide +kernel)
theorem mw_467 : (Jvm.Cond.code ({ cls := "BillMatch", name := "isHolder", desc := "(I)Z" } : Jvm.MethodName) prog_1_method_25_code (1 : Nat) (Option.some Jvm.ClassFile.FieldType.boolean)) ∈ TB := tb_in (i := 467) (by decide +kernel) (by decide +kernel)
theorem mw_469 : (Jvm.Cond.methodLink "BillMatch" (143 : Nat) ({ cls := "BillMatch$Bills", name := "isOrdered", desc := "(I)Z" } : Jvm.MethodName)) ∈ TB := tb_in (i := 469) (by decide +kernel) (by decide +kernel)
theorem mw_470 : (Jvm.Cond.methodLink "BillMatchLaw" (89 : Nat) ({ cls := "BillMatchLaw", name := "order", desc := "(LBillMatch;III[J)I" } : Jvm.MethodName)) ∈ TB := tb_in (i := 470) (by decide +kernel) (by decide +kernel)
theorem mw_471 : (Jvm.Cond.static ({ cls := "BillMatchLaw", name := "order", desc := "(LBillMatch;III[J)I" } : Jvm.MethodName)) ∈ TB := tb_in (i := 471) (by decide +kernel) (by decide +kernel)
theorem mw_472 : (Jvm.Cond.codeWith ({ cls := "BillMatchLaw", name := "order", desc := "(LBillMatch;III[J)I" } : Jvm.MethodName) method_8_code (6 : Nat) (Option.some Jvm.ClassFile.FieldType.int) [((0 : Nat), (12 : Nat), (15 : Nat), (13 : Nat))]) ∈ TB := tb_in (i := 472) (by decide +kernel) (by decide +kernel)
theorem mw_473 : (Jvm.Cond.methodLink "BillMatchLaw" (29 : Nat) ({ cls := "BillMatch", name := "order", desc := "(III)I" } : Jvm.MethodName)) ∈ TB := tb_in (i := 473) (by decide +kernel) (by decide +kernel)
theorem mw_474 : (Jvm.Cond.instanceMethod ({ cls := "BillMatch", name := "order", desc := "(III)I" } : Jvm.MethodName)) ∈ TB := tb_in (i := 474) (by decide +kernel) (by decide +kernel)
theorem mw_475 : (Jvm.Cond.selects "BillMatch" ({ cls := "BillMatch", name := "order", desc := "(III)I" } : Jvm.MethodName) ({ cls := "BillMatch", name := "order", desc := "(III)I" } : Jvm.MethodName)) ∈ TB := tb_in (i := 475) (by decide +kernel) (by decide +kernel)
theorem mw_476 : (Jvm.Cond.code ({ cls := "BillMatch", name := "order", desc := "(III)I" } : Jvm.MethodName) prog_1_method_10_code (4 : Nat) (Option.some Jvm.ClassFile.FieldType.int)) ∈ TB := tb_in (i := 476) (by decide +kernel) (by decide +kernel)
theorem mw_478 : (Jvm.Cond.methodLink "BillMatchLaw" (92 : Nat) ({ cls := "BillMatchLaw", name := "split", desc := "(LBillMatch;II[J)I" } : Jvm.MethodName)) ∈ TB := tb_in (i := 478) (by decide +kernel) (by decide +kernel)
theorem mw_479 : (Jvm.Cond.static ({ cls := "BillMatchLaw", name := "split", desc := "(LBillMatch;II[J)I" } : Jvm.MethodName)) ∈ TB := tb_in (i := 479) (by decide +kernel) (by decide +kernel)
theorem mw_480 : (Jvm.Cond.codeWith ({ cls := "BillMatchLaw", name := "split", desc := "(LBillMatch;II[J)I" } : Jvm.MethodName) method_9_code (5 : Nat) (Option.some Jvm.ClassFile.FieldType.int) [((0 : Nat), (10 : Nat), (13 : Nat), (13 : Nat)), ((0 : Nat), (10 : Nat), (17 : Nat), (15 : Nat))]) ∈ TB := tb_in (i := 480) (by decide +kernel) (by decide +kernel)
theorem mw_481 : (Jvm.Cond.methodLink "BillMatchLaw" (32 : Nat) ({ cls := "BillMatch", name := "split", desc := "(II)I" } : Jvm.MethodName)) ∈ TB := tb_in (i := 481) (by decide +kernel) (by decide +kernel)
theorem mw_482 : (Jvm.Cond.instanceMethod ({ cls := "BillMatch", name := "split", desc := "(II)I" } : Jvm.MethodName)) ∈ TB := tb_in (i := 482) (by decide +kernel) (by decide +kernel)
theorem mw_483 : (Jvm.Cond.selects "BillMatch" ({ cls := "BillMatch", name := "split", desc := "(II)I" } : Jvm.MethodName) ({ cls := "BillMatch", name := "split", desc := "(II)I" } : Jvm.MethodName)) ∈ TB := tb_in (i := 483) (by decide +kernel) (by decide +kernel)
theorem mw_484 : (Jvm.Cond.code ({ cls := "BillMatch", name := "split", desc := "(II)I" } : Jvm.MethodName) prog_1_method_11_code (5 : Nat) (Option.some Jvm.ClassFile.FieldType.int)) ∈ TB := tb_in (i := 484) (by decide +kernel) (by decide +kernel)
theorem mw_487 : (Jvm.Cond.methodLink "BillMatch" (159 : Nat) ({ cls := "BillMatch$Bills", name := "under", desc := "(I)I" } : Jvm.MethodName)) ∈ TB := tb_in (i := 487) (by decide +kernel) (by decide +kernel)
theorem mw_488 : (Jvm.Cond.instanceMethod ({ cls := "BillMatch$Bills", name := "under", desc := "(I)I" } : Jvm.MethodName)) ∈ TB := tb_in (i := 488) (by decide +kernel) (by decide +kernel)
theorem mw_489 : (Jvm.Cond.selects "BillMatch$Bills" ({ cls := "BillMatch$Bills", name := "under", desc := "(I)I" } : Jvm.MethodName) ({ cls := "BillMatch$Bills", name := "under", desc := "(I)I" } : Jvm.MethodName)) ∈ TB := tb_in (i := 489) (by decide +kernel) (by decide +kernel)
theorem mw_490 : (Jvm.Cond.code ({ cls := "BillMatch$Bills", name := "under", desc := "(I)I" } : Jvm.MethodName) prog_2_method_9_code (4 : Nat) (Option.some Jvm.ClassFile.FieldType.int)) ∈ TB := tb_in (i := 490) (by decide +kernel) (by decide +kernel)
theorem mw_491 : (Jvm.Cond.methodLink "BillMatch" (162 : Nat) ({ cls := "BillMatch$Bills", name := "nextFreeNumber", desc := "(I)I" } : Jvm.MethodName)) ∈ TB := tb_in (i := 491) (by decide +kernel) (by decide +kernel)
theorem mw_492 : (Jvm.Cond.instanceMethod ({ cls := "BillMatch$Bills", name := "nextFreeNumber", desc := "(I)I" } : Jvm.MethodName)) ∈ TB := tb_in (i := 492) (by decide +kernel) (by decide +kernel)
theorem mw_493 : (Jvm.Cond.selects "BillMatch$Bills" ({ cls := "BillMatch$Bills", name := "nextFreeNumber", desc := "(I)I" } : Jvm.MethodName) ({ cls := "BillMatch$Bills", name := "nextFreeNumber", desc := "(I)I" } : Jvm.MethodName)) ∈ TB := tb_in (i := 493) (by decide +kernel) (by decide +kernel)
theorem mw_494 : (Jvm.Cond.code ({ cls := "BillMatch$Bills", name := "nextFreeNumber", desc := "(I)I" } : Jvm.MethodName) prog_2_method_8_code (4 : Nat) (Option.some Jvm.ClassFile.FieldType.int)) ∈ TB := tb_in (i := 494) (by decide +kernel) (by decide +kernel)
theorem mw_495 : (Jvm.Cond.constant "BillMatch$Bills" (44 : Nat) (99999999 : Int32)) ∈ TB := tb_in (i := 495) (by decide +kernel) (by decide +kernel)
theorem mw_496 : (Jvm.Cond.methodLink "BillMatch$Bills" (45 : Nat) ({ cls := "BillMatch$Bills", name := "isTaken", desc := "(II)Z" } : Jvm.MethodName)) ∈ TB := tb_in (i := 496) (by decide +kernel) (by decide +kernel)
theorem mw_497 : (Jvm.Cond.methodLink "BillMatch" (165 : Nat) ({ cls := "BillMatch$Lines", name := "take", desc := "(II)V" } : Jvm.MethodName)) ∈ TB := tb_in (i := 497) (by decide +kernel) (by decide +kernel)
theorem mw_498 : (Jvm.Cond.instanceMethod ({ cls := "BillMatch$Lines", name := "take", desc := "(II)V" } : Jvm.MethodName)) ∈ TB := tb_in (i := 498) (by decide +kernel) (by decide +kernel)
theorem mw_499 : (Jvm.Cond.selects "BillMatch$Lines" ({ cls := "BillMatch$Lines", name := "take", desc := "(II)V" } : Jvm.MethodName) ({ cls := "BillMatch$Lines", name := "take", desc := "(II)V" } : Jvm.MethodName)) ∈ TB := tb_in (i := 499) (by decide +kernel) (by decide +kernel)
theorem mw_500 : (Jvm.Cond.code ({ cls := "BillMatch$Lines", name := "take", desc := "(II)V" } : Jvm.MethodName) prog_4_method_6_code (6 : Nat) (Option.none : Option Jvm.ClassFile.FieldType)) ∈ TB := tb_in (i := 500) (by decide +kernel) (by decide +kernel)
theorem mw_501 : (Jvm.Cond.methodLink "BillMatch$Lines" (31 : Nat) ({ cls := "java/lang/Math", name := "min", desc := "(II)I" } : Jvm.MethodName)) ∈ TB := tb_in (i := 501) (by decide +kernel) (by decide +kernel)
theorem mw_502 : (Jvm.Cond.static ({ cls := "java/lang/Math", name := "min", desc := "(II)I" } : Jvm.MethodName)) ∈ TB := tb_in (i := 502) (by decide +kernel) (by decide +kernel)
theorem mw_503 : (Jvm.Cond.code ({ cls := "java/lang/Math", name := "min", desc := "(II)I" } : Jvm.MethodName) prog_12_method_69_code (2 : Nat) (Option.some Jvm.ClassFile.FieldType.int)) ∈ TB := tb_in (i := 503) (by decide +kernel) (by decide +kernel)
theorem mw_504 : (Jvm.Cond.methodLink "BillMatch$Lines" (37 : Nat) ({ cls := "BillMatch$Lines", name := "changeWeight", desc := "(II)I" } : Jvm.MethodName)) ∈ TB := tb_in (i := 504) (by decide +kernel) (by decide +kernel)
theorem mw_505 : (Jvm.Cond.methodLink "BillMatchLaw" (100 : Nat) ({ cls := "BillMatchLaw", name := "look", desc := "(LBillMatch;II[J)I" } : Jvm.MethodName)) ∈ TB := tb_in (i := 505) (by decide +kernel) (by decide +kernel)
theorem mw_506 : (Jvm.Cond.static ({ cls := "BillMatchLaw", name := "look", desc := "(LBillMatch;II[J)I" } : Jvm.MethodName)) ∈ TB := tb_in (i := 506) (by decide +kernel) (by decide +kernel)
theorem mw_507 : (Jvm.Cond.codeWith ({ cls := "BillMatchLaw", name := "look", desc := "(LBillMatch;II[J)I" } : Jvm.MethodName) method_10_code (5 : Nat) (Option.some Jvm.ClassFile.FieldType.int) [((0 : Nat), (10 : Nat), (13 : Nat), (39 : Nat))]) ∈ TB := tb_in (i := 507) (by decide +kernel) (by decide +kernel)
theorem mw_508 : (Jvm.Cond.classLink "BillMatchLaw" (39 : Nat) "java/lang/IndexOutOfBoundsException") ∈ TB := tb_in (i := 508) (by decide +kernel) (by decide +kernel)
theorem mw_509 : (Jvm.Cond.methodLink "BillMatchLaw" (36 : Nat) ({ cls := "BillMatch", name := "look", desc := "(II)I" } : Jvm.MethodName)) ∈ TB := tb_in (i := 509) (by decide +kernel) (by decide +kernel)
theorem mw_510 : (Jvm.Cond.instanceMethod ({ cls := "BillMatch", name := "look", desc := "(II)I" } : Jvm.MethodName)) ∈ TB := tb_in (i := 510) (by decide +kernel) (by decide +kernel)
theorem mw_511 : (Jvm.Cond.selects "BillMatch" ({ cls := "BillMatch", name := "look", desc := "(II)I" } : Jvm.MethodName) ({ cls := "BillMatch", name := "look", desc := "(II)I" } : Jvm.MethodName)) ∈ TB := tb_in (i := 511) (by decide +kernel) (by decide +kernel)
theorem mw_512 : (Jvm.Cond.code ({ cls := "BillMatch", name := "look", desc := "(II)I" } : Jvm.MethodName) prog_1_method_13_code (3 : Nat) (Option.some Jvm.ClassFile.FieldType.int)) ∈ TB := tb_in (i := 512) (by decide +kernel) (by decide +kernel)
theorem mw_513 : (Jvm.Cond.classLink "BillMatch" (180 : Nat) "java/lang/IndexOutOfBoundsException") ∈ TB := tb_in (i := 513) (by decide +kernel) (by decide +kernel)
theorem mw_514 : (Jvm.Cond.instantiable "java/lang/IndexOutOfBoundsException" (6 : Nat)) ∈ TB := tb_in (i := 514) (by decide +kernel) (by decide +kernel)
theorem mw_516 : (Jvm.Cond.selects "java/lang/IndexOutOfBoundsException" ({ cls := "java/lang/Throwable", name := "fillInStackTrace", desc := "(I)Ljava/lang/Throwable;" } : Jvm.MethodName) ({ cls := "java/lang/Throwable", name := "fillInStackTrace", desc := "(I)Ljava/lang/Throwable;" } : Jvm.MethodName)) ∈ TB := tb_in (i := 516) (by decide +kernel) (by decide +kernel)
theorem mw_523 : (Jvm.Cond.methodLink "BillMatch" (184 : Nat) ({ cls := "java/lang/IndexOutOfBoundsException", name := "<init>", desc := "(Ljava/lang/String;)V" } : Jvm.MethodName)) ∈ TB := tb_in (i := 523) (by decide +kernel) (by decide +kernel)
theorem mw_524 : (Jvm.Cond.instanceMethod ({ cls := "java/lang/IndexOutOfBoundsException", name := "<init>", desc := "(Ljava/lang/String;)V" } : Jvm.MethodName)) ∈ TB := tb_in (i := 524) (by decide +kernel) (by decide +kernel)
theorem mw_525 : (Jvm.Cond.code ({ cls := "java/lang/IndexOutOfBoundsException", name := "<init>", desc := "(Ljava/lang/String;)V" } : Jvm.MethodName) prog_10_method_2_code (2 : Nat) (Option.none : Option Jvm.ClassFile.FieldType)) ∈ TB := tb_in (i := 525) (by decide +kernel) (by decide +kernel)
theorem mw_526 : (Jvm.Cond.methodLink "java/lang/IndexOutOfBoundsException" (7 : Nat) ({ cls := "java/lang/RuntimeException", name := "<init>", desc := "(Ljava/lang/String;)V" } : Jvm.MethodName)) ∈ TB := tb_in (i := 526) (by decide +kernel) (by decide +kernel)
theorem mw_529 : (Jvm.Cond.methodLink "BillMatch" (200 : Nat) ({ cls := "BillMatch$Boxes", name := "landedOf", desc := "(I)I" } : Jvm.MethodName)) ∈ TB := tb_in (i := 529) (by decide +kernel) (by decide +kernel)
theorem mw_530 : (Jvm.Cond.instanceMethod ({ cls := "BillMatch$Boxes", name := "landedOf", desc := "(I)I" } : Jvm.MethodName)) ∈ TB := tb_in (i := 530) (by decide +kernel) (by decide +kernel)
theorem mw_531 : (Jvm.Cond.selects "BillMatch$Boxes" ({ cls := "BillMatch$Boxes", name := "landedOf", desc := "(I)I" } : Jvm.MethodName) ({ cls := "BillMatch$Boxes", name := "landedOf", desc := "(I)I" } : Jvm.MethodName)) ∈ TB := tb_in (i := 531) (by decide +kernel) (by decide +kernel)
theorem mw_532 : (Jvm.Cond.code ({ cls := "BillMatch$Boxes", name := "landedOf", desc := "(I)I" } : Jvm.MethodName) prog_3_method_14_code (4 : Nat) (Option.some Jvm.ClassFile.FieldType.int)) ∈ TB := tb_in (i := 532) (by decide +kernel) (by decide +kernel)
theorem mw_533 : (Jvm.Cond.methodLink "BillMatch$Boxes" (47 : Nat) ({ cls := "BillMatch$Boxes", name := "isOn", desc := "(II)Z" } : Jvm.MethodName)) ∈ TB := tb_in (i := 533) (by decide +kernel) (by decide +kernel)
theorem mw_534 : (Jvm.Cond.methodLink "BillMatch$Boxes" (55 : Nat) ({ cls := "BillMatch$Boxes", name := "share", desc := "(II)I" } : Jvm.MethodName)) ∈ TB := tb_in (i := 534) (by decide +kernel) (by decide +kernel)
theorem mw_535 : (Jvm.Cond.instanceMethod ({ cls := "BillMatch$Boxes", name := "share", desc := "(II)I" } : Jvm.MethodName)) ∈ TB := tb_in (i := 535) (by decide +kernel) (by decide +kernel)
theorem mw_536 : (Jvm.Cond.selects "BillMatch$Boxes" ({ cls := "BillMatch$Boxes", name := "share", desc := "(II)I" } : Jvm.MethodName) ({ cls := "BillMatch$Boxes", name := "share", desc := "(II)I" } : Jvm.MethodName)) ∈ TB := tb_in (i := 536) (by decide +kernel) (by decide +kernel)
theorem mw_537 : (Jvm.Cond.code ({ cls := "BillMatch$Boxes", name := "share", desc := "(II)I" } : Jvm.MethodName) prog_3_method_15_code (5 : Nat) (Option.some Jvm.ClassFile.FieldType.int)) ∈ TB := tb_in (i := 537) (by decide +kernel) (by decide +kernel)
theorem mw_538 : (Jvm.Cond.methodLink "BillMatch$Boxes" (59 : Nat) ({ cls := "BillMatch$Boxes", name := "billsOf", desc := "(I)I" } : Jvm.MethodName)) ∈ TB := tb_in (i := 538) (by decide +kernel) (by decide +kernel)
theorem mw_539 : (Jvm.Cond.methodLink "BillMatch" (203 : Nat) ({ cls := "java/lang/Math", name := "max", desc := "(II)I" } : Jvm.MethodName)) ∈ TB := tb_in (i := 539) (by decide +kernel) (by decide +kernel)
theorem mw_540 : (Jvm.Cond.static ({ cls := "java/lang/Math", name := "max", desc := "(II)I" } : Jvm.MethodName)) ∈ TB := tb_in (i := 540) (by decide +kernel) (by decide +kernel)
theorem mw_541 : (Jvm.Cond.code ({ cls := "java/lang/Math", name := "max", desc := "(II)I" } : Jvm.MethodName) prog_12_method_65_code (2 : Nat) (Option.some Jvm.ClassFile.FieldType.int)) ∈ TB := tb_in (i := 541) (by decide +kernel) (by decide +kernel)
theorem mw_542 : (Jvm.Cond.methodLink "BillMatch" (206 : Nat) ({ cls := "BillMatch$Boxes", name := "boxesOn", desc := "(I)I" } : Jvm.MethodName)) ∈ TB := tb_in (i := 542) (by decide +kernel) (by decide +kernel)
theorem mw_543 : (Jvm.Cond.instanceMethod ({ cls := "BillMatch$Boxes", name := "boxesOn", desc := "(I)I" } : Jvm.MethodName)) ∈ TB := tb_in (i := 543) (by decide +kernel) (by decide +kernel)
theorem mw_544 : (Jvm.Cond.selects "BillMatch$Boxes" ({ cls := "BillMatch$Boxes", name := "boxesOn", desc := "(I)I" } : Jvm.MethodName) ({ cls := "BillMatch$Boxes", name := "boxesOn", desc := "(I)I" } : Jvm.MethodName)) ∈ TB := tb_in (i := 544) (by decide +kernel) (by decide +kernel)
theorem mw_545 : (Jvm.Cond.code ({ cls := "BillMatch$Boxes", name := "boxesOn", desc := "(I)I" } : Jvm.MethodName) prog_3_method_13_code (4 : Nat) (Option.some Jvm.ClassFile.FieldType.int)) ∈ TB := tb_in (i := 545) (by decide +kernel) (by decide +kernel)
theorem mw_547 : (Jvm.Cond.methodLink "BillMatchLaw" (103 : Nat) ({ cls := "BillMatchLaw", name := "seen", desc := "(LBillMatch;II[J)I" } : Jvm.MethodName)) ∈ TB := tb_in (i := 547) (by decide +kernel) (by decide +kernel)
theorem mw_548 : (Jvm.Cond.static ({ cls := "BillMatchLaw", name := "seen", desc := "(LBillMatch;II[J)I" } : Jvm.MethodName)) ∈ TB := tb_in (i := 548) (by decide +kernel) (by decide +kernel)
theorem mw_549 : (Jvm.Cond.codeWith ({ cls := "BillMatchLaw", name := "seen", desc := "(LBillMatch;II[J)I" } : Jvm.MethodName) method_11_code (5 : Nat) (Option.some Jvm.ClassFile.FieldType.int) [((0 : Nat), (10 : Nat), (13 : Nat), (39 : Nat)), ((0 : Nat), (10 : Nat), (17 : Nat), (44 : Nat))]) ∈ TB := tb_in (i := 549) (by decide +kernel) (by decide +kernel)
theorem mw_550 : (Jvm.Cond.classLink "BillMatchLaw" (44 : Nat) "java/util/NoSuchElementException") ∈ TB := tb_in (i := 550) (by decide +kernel) (by decide +kernel)
theorem mw_551 : (Jvm.Cond.methodLink "BillMatchLaw" (41 : Nat) ({ cls := "BillMatch", name := "seen", desc := "(II)I" } : Jvm.MethodName)) ∈ TB := tb_in (i := 551) (by decide +kernel) (by decide +kernel)
theorem mw_552 : (Jvm.Cond.instanceMethod ({ cls := "BillMatch", name := "seen", desc := "(II)I" } : Jvm.MethodName)) ∈ TB := tb_in (i := 552) (by decide +kernel) (by decide +kernel)
theorem mw_553 : (Jvm.Cond.selects "BillMatch" ({ cls := "BillMatch", name := "seen", desc := "(II)I" } : Jvm.MethodName) ({ cls := "BillMatch", name := "seen", desc := "(II)I" } : Jvm.MethodName)) ∈ TB := tb_in (i := 553) (by decide +kernel) (by decide +kernel)
theorem mw_554 : (Jvm.Cond.code ({ cls := "BillMatch", name := "seen", desc := "(II)I" } : Jvm.MethodName) prog_1_method_14_code (4 : Nat) (Option.some Jvm.ClassFile.FieldType.int)) ∈ TB := tb_in (i := 554) (by decide +kernel) (by decide +kernel)
theorem mw_556 : (Jvm.Cond.methodLink "BillMatch" (223 : Nat) ({ cls := "BillMatch$Boxes", name := "weightSoFar", desc := "(I)I" } : Jvm.MethodName)) ∈ TB := tb_in (i := 556) (by decide +kernel) (by decide +kernel)
theorem mw_557 : (Jvm.Cond.instanceMethod ({ cls := "BillMatch$Boxes", name := "weightSoFar", desc := "(I)I" } : Jvm.MethodName)) ∈ TB := tb_in (i := 557) (by decide +kernel) (by decide +kernel)
theorem mw_558 : (Jvm.Cond.selects "BillMatch$Boxes" ({ cls := "BillMatch$Boxes", name := "weightSoFar", desc := "(I)I" } : Jvm.MethodName) ({ cls := "BillMatch$Boxes", name := "weightSoFar", desc := "(I)I" } : Jvm.MethodName)) ∈ TB := tb_in (i := 558) (by decide +kernel) (by decide +kernel)
theorem mw_559 : (Jvm.Cond.code ({ cls := "BillMatch$Boxes", name := "weightSoFar", desc := "(I)I" } : Jvm.MethodName) prog_3_method_17_code (5 : Nat) (Option.some Jvm.ClassFile.FieldType.int)) ∈ TB := tb_in (i := 559) (by decide +kernel) (by decide +kernel)
theorem mw_560 : (Jvm.Cond.methodLink "BillMatch" (226 : Nat) ({ cls := "BillMatch$Boxes", name := "billAt", desc := "(II)I" } : Jvm.MethodName)) ∈ TB := tb_in (i := 560) (by decide +kernel) (by decide +kernel)
theorem mw_561 : (Jvm.Cond.instanceMethod ({ cls := "BillMatch$Boxes", name := "billAt", desc := "(II)I" } : Jvm.MethodName)) ∈ TB := tb_in (i := 561) (by decide +kernel) (by decide +kernel)
theorem mw_562 : (Jvm.Cond.selects "BillMatch$Boxes" ({ cls := "BillMatch$Boxes", name := "billAt", desc := "(II)I" } : Jvm.MethodName) ({ cls := "BillMatch$Boxes", name := "billAt", desc := "(II)I" } : Jvm.MethodName)) ∈ TB := tb_in (i := 562) (by decide +kernel) (by decide +kernel)
theorem mw_563 : (Jvm.Cond.code ({ cls := "BillMatch$Boxes", name := "billAt", desc := "(II)I" } : Jvm.MethodName) prog_3_method_9_code (5 : Nat) (Option.some Jvm.ClassFile.FieldType.int)) ∈ TB := tb_in (i := 563) (by decide +kernel) (by decide +kernel)
theorem mw_564 : (Jvm.Cond.classLink "BillMatch" (229 : Nat) "java/util/NoSuchElementException") ∈ TB := tb_in (i := 564) (by decide +kernel) (by decide +kernel)
theorem mw_565 : (Jvm.Cond.instantiable "java/util/NoSuchElementException" (6 : Nat)) ∈ TB := tb_in (i := 565) (by decide +kernel) (by decide +kernel)
theorem mw_567 : (Jvm.Cond.selects "java/util/NoSuchElementException" ({ cls := "java/lang/Throwable", name := "fillInStackTrace", desc := "(I)Ljava/lang/Throwable;" } : Jvm.MethodName) ({ cls := "java/lang/Throwable", name := "fillInStackTrace", desc := "(I)Ljava/lang/Throwable;" } : Jvm.MethodName)) ∈ TB := tb_in (i := 567) (by decide +kernel) (by decide +kernel)
theorem mw_574 : (Jvm.Cond.methodLink "BillMatch" (233 : Nat) ({ cls := "java/util/NoSuchElementException", name := "<init>", desc := "(Ljava/lang/String;)V" } : Jvm.MethodName)) ∈ TB := tb_in (i := 574) (by decide +kernel) (by decide +kernel)
theorem mw_575 : (Jvm.Cond.instanceMethod ({ cls := "java/util/NoSuchElementException", name := "<init>", desc := "(Ljava/lang/String;)V" } : Jvm.MethodName)) ∈ TB := tb_in (i := 575) (by decide +kernel) (by decide +kernel)
theorem mw_576 : (Jvm.Cond.code ({ cls := "java/util/NoSuchElementException", name := "<init>", desc := "(Ljava/lang/String;)V" } : Jvm.MethodName) prog_16_method_4_code (2 : Nat) (Option.none : Option Jvm.ClassFile.FieldType)) ∈ TB := tb_in (i := 576) (by decide +kernel) (by decide +kernel)
theorem mw_577 : (Jvm.Cond.methodLink "java/util/NoSuchElementException" (13 : Nat) ({ cls := "java/lang/RuntimeException", name := "<init>", desc := "(Ljava/lang/String;)V" } : Jvm.MethodName)) ∈ TB := tb_in (i := 577) (by decide +kernel) (by decide +kernel)
theorem mw_580 : (Jvm.Cond.methodLink "BillMatchLaw" (111 : Nat) ({ cls := "BillMatchLaw", name := "like", desc := "(LBillMatch;III[J)I" } : Jvm.MethodName)) ∈ TB := tb_in (i := 580) (by decide +kernel) (by decide +kernel)
theorem mw_581 : (Jvm.Cond.static ({ cls := "BillMatchLaw", name := "like", desc := "(LBillMatch;III[J)I" } : Jvm.MethodName)) ∈ TB := tb_in (i := 581) (by decide +kernel) (by decide +kernel)
theorem mw_582 : (Jvm.Cond.codeWith ({ cls := "BillMatchLaw", name := "like", desc := "(LBillMatch;III[J)I" } : Jvm.MethodName) method_12_code (6 : Nat) (Option.some Jvm.ClassFile.FieldType.int) [((0 : Nat), (12 : Nat), (15 : Nat), (13 : Nat))]) ∈ TB := tb_in (i := 582) (by decide +kernel) (by decide +kernel)
theorem mw_583 : (Jvm.Cond.methodLink "BillMatchLaw" (46 : Nat) ({ cls := "BillMatch", name := "like", desc := "(III)I" } : Jvm.MethodName)) ∈ TB := tb_in (i := 583) (by decide +kernel) (by decide +kernel)
theorem mw_584 : (Jvm.Cond.instanceMethod ({ cls := "BillMatch", name := "like", desc := "(III)I" } : Jvm.MethodName)) ∈ TB := tb_in (i := 584) (by decide +kernel) (by decide +kernel)
theorem mw_585 : (Jvm.Cond.selects "BillMatch" ({ cls := "BillMatch", name := "like", desc := "(III)I" } : Jvm.MethodName) ({ cls := "BillMatch", name := "like", desc := "(III)I" } : Jvm.MethodName)) ∈ TB := tb_in (i := 585) (by decide +kernel) (by decide +kernel)
theorem mw_586 : (Jvm.Cond.code ({ cls := "BillMatch", name := "like", desc := "(III)I" } : Jvm.MethodName) prog_1_method_16_code (6 : Nat) (Option.some Jvm.ClassFile.FieldType.int)) ∈ TB := tb_in (i := 586) (by decide +kernel) (by decide +kernel)
theorem mw_587 : (Jvm.Cond.methodLink "BillMatch" (238 : Nat) ({ cls := "BillMatch", name := "areAlike", desc := "(II)Z" } : Jvm.MethodName)) ∈ TB := tb_in (i := 587) (by decide +kernel) (by decide +kernel)
theorem mw_588 : (Jvm.Cond.static ({ cls := "BillMatch", name := "areAlike", desc := "(II)Z" } : Jvm.MethodName)) ∈ TB := tb_in (i := 588) (by decide +kernel) (by decide +kernel)
theorem mw_589 : (Jvm.Cond.code ({ cls := "BillMatch", name := "areAlike", desc := "(II)Z" } : Jvm.MethodName) prog_1_method_26_code (5 : Nat) (Option.some Jvm.ClassFile.FieldType.boolean)) ∈ TB := tb_in (i := 589) (by decide +kernel) (by decide +kernel)
theorem mw_590 : (Jvm.Cond.classLink "BillMatchLaw" (50 : Nat) "BillMatchModel") ∈ TB := tb_in (i := 590) (by decide +kernel) (by decide +kernel)
theorem mw_591 : (Jvm.Cond.instantiable "BillMatchModel" (22 : Nat)) ∈ TB := tb_in (i := 591) (by decide +kernel) (by decide +kernel)
theorem mw_592 : (Jvm.Cond.methodLink "BillMatchLaw" (52 : Nat) ({ cls := "BillMatchModel", name := "<init>", desc := "()V" } : Jvm.MethodName)) ∈ TB := tb_in (i := 592) (by decide +kernel) (by decide +kernel)
theorem mw_593 : (Jvm.Cond.instanceMethod ({ cls := "BillMatchModel", name := "<init>", desc := "()V" } : Jvm.MethodName)) ∈ TB := tb_in (i := 593) (by decide +kernel) (by decide +kernel)
theorem mw_594 : (Jvm.Cond.code ({ cls := "BillMatchModel", name := "<init>", desc := "()V" } : Jvm.MethodName) prog_6_method_1_code (1 : Nat) (Option.none : Option Jvm.ClassFile.FieldType)) ∈ TB := tb_in (i := 594) (by decide +kernel) (by decide +kernel)
theorem mw_595 : (Jvm.Cond.methodLink "BillMatchModel" (1 : Nat) ({ cls := "java/lang/Object", name := "<init>", desc := "()V" } : Jvm.MethodName)) ∈ TB := tb_in (i := 595) (by decide +kernel) (by decide +kernel)
theorem mw_596 : (Jvm.Cond.fieldLink "BillMatchModel" (56 : Nat) "BillMatchModel" "thrown" "I") ∈ TB := tb_in (i := 596) (by decide +kernel) (by decide +kernel)
theorem mw_597 : (Jvm.Cond.fieldLink "BillMatchModel" (60 : Nat) "BillMatchModel" "bills" "I") ∈ TB := tb_in (i := 597) (by decide +kernel) (by decide +kernel)
theorem mw_598 : (Jvm.Cond.fieldLink "BillMatchModel" (63 : Nat) "BillMatchModel" "boxes" "I") ∈ TB := tb_in (i := 598) (by decide +kernel) (by decide +kernel)
theorem mw_599 : (Jvm.Cond.fieldLink "BillMatchModel" (66 : Nat) "BillMatchModel" "lines" "I") ∈ TB := tb_in (i := 599) (by decide +kernel) (by decide +kernel)
theorem mw_600 : (Jvm.Cond.fieldLink "BillMatchModel" (119 : Nat) "BillMatchModel" "penalties" "I") ∈ TB := tb_in (i := 600) (by decide +kernel) (by decide +kernel)
theorem mw_601 : (Jvm.Cond.fieldLink "BillMatchModel" (125 : Nat) "BillMatchModel" "orders" "I") ∈ TB := tb_in (i := 601) (by decide +kernel) (by decide +kernel)
theorem mw_602 : (Jvm.Cond.fieldLink "BillMatchModel" (113 : Nat) "BillMatchModel" "arrived" "I") ∈ TB := tb_in (i := 602) (by decide +kernel) (by decide +kernel)
theorem mw_603 : (Jvm.Cond.fieldLink "BillMatchModel" (7 : Nat) "BillMatchModel" "callOf" "[I") ∈ TB := tb_in (i := 603) (by decide +kernel) (by decide +kernel)
theorem mw_604 : (Jvm.Cond.fieldLink "BillMatchModel" (13 : Nat) "BillMatchModel" "numberOf" "[I") ∈ TB := tb_in (i := 604) (by decide +kernel) (by decide +kernel)
theorem mw_605 : (Jvm.Cond.fieldLink "BillMatchModel" (16 : Nat) "BillMatchModel" "aboveOf" "[I") ∈ TB := tb_in (i := 605) (by decide +kernel) (by decide +kernel)
theorem mw_606 : (Jvm.Cond.fieldLink "BillMatchModel" (19 : Nat) "BillMatchModel" "holderOf" "[I") ∈ TB := tb_in (i := 606) (by decide +kernel) (by decide +kernel)
theorem mw_607 : (Jvm.Cond.fieldLink "BillMatchModel" (22 : Nat) "BillMatchModel" "ordersOf" "[I") ∈ TB := tb_in (i := 607) (by decide +kernel) (by decide +kernel)
theorem mw_608 : (Jvm.Cond.fieldLink "BillMatchModel" (25 : Nat) "BillMatchModel" "lineBill" "[I") ∈ TB := tb_in (i := 608) (by decide +kernel) (by decide +kernel)
theorem mw_609 : (Jvm.Cond.fieldLink "BillMatchModel" (28 : Nat) "BillMatchModel" "lineWeight" "[I") ∈ TB := tb_in (i := 609) (by decide +kernel) (by decide +kernel)
theorem mw_610 : (Jvm.Cond.fieldLink "BillMatchModel" (31 : Nat) "BillMatchModel" "linePieces" "[I") ∈ TB := tb_in (i := 610) (by decide +kernel) (by decide +kernel)
theorem mw_611 : (Jvm.Cond.fieldLink "BillMatchModel" (34 : Nat) "BillMatchModel" "boxCall" "[I") ∈ TB := tb_in (i := 611) (by decide +kernel) (by decide +kernel)
theorem mw_612 : (Jvm.Cond.fieldLink "BillMatchModel" (37 : Nat) "BillMatchModel" "boxNumber" "[I") ∈ TB := tb_in (i := 612) (by decide +kernel) (by decide +kernel)
theorem mw_613 : (Jvm.Cond.fieldLink "BillMatchModel" (40 : Nat) "BillMatchModel" "boxWeight" "[I") ∈ TB := tb_in (i := 613) (by decide +kernel) (by decide +kernel)
theorem mw_614 : (Jvm.Cond.fieldLink "BillMatchModel" (43 : Nat) "BillMatchModel" "landedOf" "[I") ∈ TB := tb_in (i := 614) (by decide +kernel) (by decide +kernel)
theorem mw_615 : (Jvm.Cond.fieldLink "BillMatchModel" (46 : Nat) "BillMatchModel" "orderedBy" "[I") ∈ TB := tb_in (i := 615) (by decide +kernel) (by decide +kernel)
theorem mw_616 : (Jvm.Cond.fieldLink "BillMatchModel" (49 : Nat) "BillMatchModel" "nextOf" "[I") ∈ TB := tb_in (i := 616) (by decide +kernel) (by decide +kernel)
theorem mw_617 : (Jvm.Cond.fieldLink "BillMatchModel" (52 : Nat) "BillMatchModel" "isOn" "[Z") ∈ TB := tb_in (i := 617) (by decide +kernel) (by decide +kernel)
theorem mw_663 : (Jvm.Cond.arrayClass Jvm.ClassFile.FieldType.boolean) ∈ TB := tb_in (i := 663) (by decide +kernel) (by decide +kernel)
theorem mw_664 : (Jvm.Cond.methodLink "BillMatchLaw" (59 : Nat) ({ cls := "BillMatchModel", name := "thrown", desc := "()I" } : Jvm.MethodName)) ∈ TB := tb_in (i := 664) (by decide +kernel) (by decide +kernel)
theorem mw_665 : (Jvm.Cond.instanceMethod ({ cls := "BillMatchModel", name := "thrown", desc := "()I" } : Jvm.MethodName)) ∈ TB := tb_in (i := 665) (by decide +kernel) (by decide +kernel)
theorem mw_666 : (Jvm.Cond.selects "BillMatchModel" ({ cls := "BillMatchModel", name := "thrown", desc := "()I" } : Jvm.MethodName) ({ cls := "BillMatchModel", name := "thrown", desc := "()I" } : Jvm.MethodName)) ∈ TB := tb_in (i := 666) (by decide +kernel) (by decide +kernel)
theorem mw_667 : (Jvm.Cond.code ({ cls := "BillMatchModel", name := "thrown", desc := "()I" } : Jvm.MethodName) prog_6_method_2_code (1 : Nat) (Option.some Jvm.ClassFile.FieldType.int)) ∈ TB := tb_in (i := 667) (by decide +kernel) (by decide +kernel)
theorem mw_668 : (Jvm.Cond.methodLink "BillMatchLaw" (58 : Nat) ({ cls := "BillMatchModel", name := "bill", desc := "(III)I" } : Jvm.MethodName)) ∈ TB := tb_in (i := 668) (by decide +kernel) (by decide +kernel)
theorem mw_669 : (Jvm.Cond.instanceMethod ({ cls := "BillMatchModel", name := "bill", desc := "(III)I" } : Jvm.MethodName)) ∈ TB := tb_in (i := 669) (by decide +kernel) (by decide +kernel)
theorem mw_670 : (Jvm.Cond.selects "BillMatchModel" ({ cls := "BillMatchModel", name := "bill", desc := "(III)I" } : Jvm.MethodName) ({ cls := "BillMatchModel", name := "bill", desc := "(III)I" } : Jvm.MethodName)) ∈ TB := tb_in (i := 670) (by decide +kernel) (by decide +kernel)
theorem mw_671 : (Jvm.Cond.code ({ cls := "BillMatchModel", name := "bill", desc := "(III)I" } : Jvm.MethodName) prog_6_method_20_code (4 : Nat) (Option.some Jvm.ClassFile.FieldType.int)) ∈ TB := tb_in (i := 671) (by decide +kernel) (by decide +kernel)
theorem mw_672 : (Jvm.Cond.methodLink "BillMatchModel" (83 : Nat) ({ cls := "BillMatchModel", name := "in", desc := "(III)Z" } : Jvm.MethodName)) ∈ TB := tb_in (i := 672) (by decide +kernel) (by decide +kernel)
theorem mw_673 : (Jvm.Cond.static ({ cls := "BillMatchModel", name := "in", desc := "(III)Z" } : Jvm.MethodName)) ∈ TB := tb_in (i := 673) (by decide +kernel) (by decide +kernel)
theorem mw_674 : (Jvm.Cond.code ({ cls := "BillMatchModel", name := "in", desc := "(III)Z" } : Jvm.MethodName) prog_6_method_3_code (3 : Nat) (Option.some Jvm.ClassFile.FieldType.boolean)) ∈ TB := tb_in (i := 674) (by decide +kernel) (by decide +kernel)
theorem mw_675 : (Jvm.Cond.constant "BillMatchModel" (87 : Nat) (99999999 : Int32)) ∈ TB := tb_in (i := 675) (by decide +kernel) (by decide +kernel)
theorem mw_676 : (Jvm.Cond.methodLink "BillMatchModel" (88 : Nat) ({ cls := "BillMatchModel", name := "numbered", desc := "(II)I" } : Jvm.MethodName)) ∈ TB := tb_in (i := 676) (by decide +kernel) (by decide +kernel)
theorem mw_678 : (Jvm.Cond.instanceMethod ({ cls := "BillMatchModel", name := "numbered", desc := "(II)I" } : Jvm.MethodName)) ∈ TB := tb_in (i := 678) (by decide +kernel) (by decide +kernel)
theorem mw_679 : (Jvm.Cond.code ({ cls := "BillMatchModel", name := "numbered", desc := "(II)I" } : Jvm.MethodName) prog_6_method_7_code (5 : Nat) (Option.some Jvm.ClassFile.FieldType.int)) ∈ TB := tb_in (i := 679) (by decide +kernel) (by decide +kernel)
theorem mw_680 : (Jvm.Cond.methodLink "BillMatchModel" (92 : Nat) ({ cls := "BillMatchModel", name := "isBill", desc := "(I)Z" } : Jvm.MethodName)) ∈ TB := tb_in (i := 680) (by decide +kernel) (by decide +kernel)
theorem mw_682 : (Jvm.Cond.instanceMethod ({ cls := "BillMatchModel", name := "isBill", desc := "(I)Z" } : Jvm.MethodName)) ∈ TB := tb_in (i := 682) (by decide +kernel) (by decide +kernel)
theorem mw_683 : (Jvm.Cond.code ({ cls := "BillMatchModel", name := "isBill", desc := "(I)Z" } : Jvm.MethodName) prog_6_method_4_code (2 : Nat) (Option.some Jvm.ClassFile.FieldType.boolean)) ∈ TB := tb_in (i := 683) (by decide +kernel) (by decide +kernel)
theorem mw_684 : (Jvm.Cond.methodLink "BillMatchModel" (96 : Nat) ({ cls := "BillMatchModel", name := "depthOf", desc := "(I)I" } : Jvm.MethodName)) ∈ TB := tb_in (i := 684) (by decide +kernel) (by decide +kernel)
theorem mw_686 : (Jvm.Cond.instanceMethod ({ cls := "BillMatchModel", name := "depthOf", desc := "(I)I" } : Jvm.MethodName)) ∈ TB := tb_in (i := 686) (by decide +kernel) (by decide +kernel)
theorem mw_687 : (Jvm.Cond.code ({ cls := "BillMatchModel", name := "depthOf", desc := "(I)I" } : Jvm.MethodName) prog_6_method_8_code (4 : Nat) (Option.some Jvm.ClassFile.FieldType.int)) ∈ TB := tb_in (i := 687) (by decide +kernel) (by decide +kernel)
theorem mw_688 : (Jvm.Cond.methodLink "BillMatchModel" (99 : Nat) ({ cls := "BillMatchModel", name := "make", desc := "(III)I" } : Jvm.MethodName)) ∈ TB := tb_in (i := 688) (by decide +kernel) (by decide +kernel)
theorem mw_690 : (Jvm.Cond.instanceMethod ({ cls := "BillMatchModel", name := "make", desc := "(III)I" } : Jvm.MethodName)) ∈ TB := tb_in (i := 690) (by decide +kernel) (by decide +kernel)
theorem mw_691 : (Jvm.Cond.code ({ cls := "BillMatchModel", name := "make", desc := "(III)I" } : Jvm.MethodName) prog_6_method_19_code (4 : Nat) (Option.some Jvm.ClassFile.FieldType.int)) ∈ TB := tb_in (i := 691) (by decide +kernel) (by decide +kernel)
theorem mw_692 : (Jvm.Cond.methodLink "BillMatchLaw" (65 : Nat) ({ cls := "BillMatchModel", name := "line", desc := "(III)I" } : Jvm.MethodName)) ∈ TB := tb_in (i := 692) (by decide +kernel) (by decide +kernel)
theorem mw_693 : (Jvm.Cond.instanceMethod ({ cls := "BillMatchModel", name := "line", desc := "(III)I" } : Jvm.MethodName)) ∈ TB := tb_in (i := 693) (by decide +kernel) (by decide +kernel)
theorem mw_694 : (Jvm.Cond.selects "BillMatchModel" ({ cls := "BillMatchModel", name := "line", desc := "(III)I" } : Jvm.MethodName) ({ cls := "BillMatchModel", name := "line", desc := "(III)I" } : Jvm.MethodName)) ∈ TB := tb_in (i := 694) (by decide +kernel) (by decide +kernel)
theorem mw_695 : (Jvm.Cond.code ({ cls := "BillMatchModel", name := "line", desc := "(III)I" } : Jvm.MethodName) prog_6_method_22_code (4 : Nat) (Option.some Jvm.ClassFile.FieldType.int)) ∈ TB := tb_in (i := 695) (by decide +kernel) (by decide +kernel)
theorem mw_696 : (Jvm.Cond.constant "BillMatchModel" (106 : Nat) (1000000 : Int32)) ∈ TB := tb_in (i := 696) (by decide +kernel) (by decide +kernel)
theorem mw_697 : (Jvm.Cond.methodLink "BillMatchModel" (107 : Nat) ({ cls := "BillMatchModel", name := "add", desc := "(III)I" } : Jvm.MethodName)) ∈ TB := tb_in (i := 697) (by decide +kernel) (by decide +kernel)
theorem mw_699 : (Jvm.Cond.instanceMethod ({ cls := "BillMatchModel", name := "add", desc := "(III)I" } : Jvm.MethodName)) ∈ TB := tb_in (i := 699) (by decide +kernel) (by decide +kernel)
theorem mw_700 : (Jvm.Cond.code ({ cls := "BillMatchModel", name := "add", desc := "(III)I" } : Jvm.MethodName) prog_6_method_21_code (4 : Nat) (Option.some Jvm.ClassFile.FieldType.int)) ∈ TB := tb_in (i := 700) (by decide +kernel) (by decide +kernel)
theorem mw_701 : (Jvm.Cond.methodLink "BillMatchModel" (103 : Nat) ({ cls := "BillMatchModel", name := "linesOf", desc := "(I)I" } : Jvm.MethodName)) ∈ TB := tb_in (i := 701) (by decide +kernel) (by decide +kernel)
theorem mw_703 : (Jvm.Cond.instanceMethod ({ cls := "BillMatchModel", name := "linesOf", desc := "(I)I" } : Jvm.MethodName)) ∈ TB := tb_in (i := 703) (by decide +kernel) (by decide +kernel)
theorem mw_704 : (Jvm.Cond.code ({ cls := "BillMatchModel", name := "linesOf", desc := "(I)I" } : Jvm.MethodName) prog_6_method_10_code (4 : Nat) (Option.some Jvm.ClassFile.FieldType.int)) ∈ TB := tb_in (i := 704) (by decide +kernel) (by decide +kernel)
theorem mw_705 : (Jvm.Cond.methodLink "BillMatchLaw" (68 : Nat) ({ cls := "BillMatchModel", name := "box", desc := "(III)I" } : Jvm.MethodName)) ∈ TB := tb_in (i := 705) (by decide +kernel) (by decide +kernel)
theorem mw_706 : (Jvm.Cond.instanceMethod ({ cls := "BillMatchModel", name := "box", desc := "(III)I" } : Jvm.MethodName)) ∈ TB := tb_in (i := 706) (by decide +kernel) (by decide +kernel)
theorem mw_707 : (Jvm.Cond.selects "BillMatchModel" ({ cls := "BillMatchModel", name := "box", desc := "(III)I" } : Jvm.MethodName) ({ cls := "BillMatchModel", name := "box", desc := "(III)I" } : Jvm.MethodName)) ∈ TB := tb_in (i := 707) (by decide +kernel) (by decide +kernel)
theorem mw_708 : (Jvm.Cond.code ({ cls := "BillMatchModel", name := "box", desc := "(III)I" } : Jvm.MethodName) prog_6_method_23_code (5 : Nat) (Option.some Jvm.ClassFile.FieldType.int)) ∈ TB := tb_in (i := 708) (by decide +kernel) (by decide +kernel)
theorem mw_709 : (Jvm.Cond.methodLink "BillMatchLaw" (73 : Nat) ({ cls := "BillMatchModel", name := "on", desc := "(II)Z" } : Jvm.MethodName)) ∈ TB := tb_in (i := 709) (by decide +kernel) (by decide +kernel)
theorem mw_710 : (Jvm.Cond.instanceMethod ({ cls := "BillMatchModel", name := "on", desc := "(II)Z" } : Jvm.MethodName)) ∈ TB := tb_in (i := 710) (by decide +kernel) (by decide +kernel)
theorem mw_711 : (Jvm.Cond.selects "BillMatchModel" ({ cls := "BillMatchModel", name := "on", desc := "(II)Z" } : Jvm.MethodName) ({ cls := "BillMatchModel", name := "on", desc := "(II)Z" } : Jvm.MethodName)) ∈ TB := tb_in (i := 711) (by decide +kernel) (by decide +kernel)
theorem mw_712 : (Jvm.Cond.code ({ cls := "BillMatchModel", name := "on", desc := "(II)Z" } : Jvm.MethodName) prog_6_method_24_code (3 : Nat) (Option.some Jvm.ClassFile.FieldType.boolean)) ∈ TB := tb_in (i := 712) (by decide +kernel) (by decide +kernel)
theorem mw_713 : (Jvm.Cond.methodLink "BillMatchModel" (110 : Nat) ({ cls := "BillMatchModel", name := "isBox", desc := "(I)Z" } : Jvm.MethodName)) ∈ TB := tb_in (i := 713) (by decide +kernel) (by decide +kernel)
theorem mw_715 : (Jvm.Cond.instanceMethod ({ cls := "BillMatchModel", name := "isBox", desc := "(I)Z" } : Jvm.MethodName)) ∈ TB := tb_in (i := 715) (by decide +kernel) (by decide +kernel)
theorem mw_716 : (Jvm.Cond.code ({ cls := "BillMatchModel", name := "isBox", desc := "(I)Z" } : Jvm.MethodName) prog_6_method_5_code (2 : Nat) (Option.some Jvm.ClassFile.FieldType.boolean)) ∈ TB := tb_in (i := 716) (by decide +kernel) (by decide +kernel)
theorem mw_717 : (Jvm.Cond.methodLink "BillMatchModel" (76 : Nat) ({ cls := "BillMatchModel", name := "stands", desc := "(II)Z" } : Jvm.MethodName)) ∈ TB := tb_in (i := 717) (by decide +kernel) (by decide +kernel)
theorem mw_719 : (Jvm.Cond.instanceMethod ({ cls := "BillMatchModel", name := "stands", desc := "(II)Z" } : Jvm.MethodName)) ∈ TB := tb_in (i := 719) (by decide +kernel) (by decide +kernel)
theorem mw_720 : (Jvm.Cond.code ({ cls := "BillMatchModel", name := "stands", desc := "(II)Z" } : Jvm.MethodName) prog_6_method_6_code (3 : Nat) (Option.some Jvm.ClassFile.FieldType.boolean)) ∈ TB := tb_in (i := 720) (by decide +kernel) (by decide +kernel)
theorem mw_721 : (Jvm.Cond.methodLink "BillMatchModel" (80 : Nat) ({ cls := "BillMatchModel", name := "billsOf", desc := "(I)I" } : Jvm.MethodName)) ∈ TB := tb_in (i := 721) (by decide +kernel) (by decide +kernel)
theorem mw_723 : (Jvm.Cond.instanceMethod ({ cls := "BillMatchModel", name := "billsOf", desc := "(I)I" } : Jvm.MethodName)) ∈ TB := tb_in (i := 723) (by decide +kernel) (by decide +kernel)
theorem mw_724 : (Jvm.Cond.code ({ cls := "BillMatchModel", name := "billsOf", desc := "(I)I" } : Jvm.MethodName) prog_6_method_15_code (4 : Nat) (Option.some Jvm.ClassFile.FieldType.int)) ∈ TB := tb_in (i := 724) (by decide +kernel) (by decide +kernel)
theorem mw_725 : (Jvm.Cond.methodLink "BillMatchLaw" (77 : Nat) ({ cls := "BillMatchModel", name := "land", desc := "(II)Z" } : Jvm.MethodName)) ∈ TB := tb_in (i := 725) (by decide +kernel) (by decide +kernel)
theorem mw_726 : (Jvm.Cond.instanceMethod ({ cls := "BillMatchModel", name := "land", desc := "(II)Z" } : Jvm.MethodName)) ∈ TB := tb_in (i := 726) (by decide +kernel) (by decide +kernel)
theorem mw_727 : (Jvm.Cond.selects "BillMatchModel" ({ cls := "BillMatchModel", name := "land", desc := "(II)Z" } : Jvm.MethodName) ({ cls := "BillMatchModel", name := "land", desc := "(II)Z" } : Jvm.MethodName)) ∈ TB := tb_in (i := 727) (by decide +kernel) (by decide +kernel)
theorem mw_728 : (Jvm.Cond.code ({ cls := "BillMatchModel", name := "land", desc := "(II)Z" } : Jvm.MethodName) prog_6_method_25_code (3 : Nat) (Option.some Jvm.ClassFile.FieldType.boolean)) ∈ TB := tb_in (i := 728) (by decide +kernel) (by decide +kernel)
theorem mw_729 : (Jvm.Cond.methodLink "BillMatchLaw" (82 : Nat) ({ cls := "BillMatchModel", name := "arrive", desc := "(I)Z" } : Jvm.MethodName)) ∈ TB := tb_in (i := 729) (by decide +kernel) (by decide +kernel)
theorem mw_730 : (Jvm.Cond.instanceMethod ({ cls := "BillMatchModel", name := "arrive", desc := "(I)Z" } : Jvm.MethodName)) ∈ TB := tb_in (i := 730) (by decide +kernel) (by decide +kernel)
theorem mw_731 : (Jvm.Cond.selects "BillMatchModel" ({ cls := "BillMatchModel", name := "arrive", desc := "(I)Z" } : Jvm.MethodName) ({ cls := "BillMatchModel", name := "arrive", desc := "(I)Z" } : Jvm.MethodName)) ∈ TB := tb_in (i := 731) (by decide +kernel) (by decide +kernel)
theorem mw_732 : (Jvm.Cond.code ({ cls := "BillMatchModel", name := "arrive", desc := "(I)Z" } : Jvm.MethodName) prog_6_method_26_code (2 : Nat) (Option.some Jvm.ClassFile.FieldType.boolean)) ∈ TB := tb_in (i := 732) (by decide +kernel) (by decide +kernel)
theorem mw_733 : (Jvm.Cond.methodLink "BillMatchLaw" (85 : Nat) ({ cls := "BillMatchModel", name := "amend", desc := "(III)I" } : Jvm.MethodName)) ∈ TB := tb_in (i := 733) (by decide +kernel) (by decide +kernel)
theorem mw_734 : (Jvm.Cond.instanceMethod ({ cls := "BillMatchModel", name := "amend", desc := "(III)I" } : Jvm.MethodName)) ∈ TB := tb_in (i := 734) (by decide +kernel) (by decide +kernel)
theorem mw_735 : (Jvm.Cond.selects "BillMatchModel" ({ cls := "BillMatchModel", name := "amend", desc := "(III)I" } : Jvm.MethodName) ({ cls := "BillMatchModel", name := "amend", desc := "(III)I" } : Jvm.MethodName)) ∈ TB := tb_in (i := 735) (by decide +kernel) (by decide +kernel)
theorem mw_736 : (Jvm.Cond.code ({ cls := "BillMatchModel", name := "amend", desc := "(III)I" } : Jvm.MethodName) prog_6_method_28_code (7 : Nat) (Option.some Jvm.ClassFile.FieldType.int)) ∈ TB := tb_in (i := 736) (by decide +kernel) (by decide +kernel)
theorem mw_737 : (Jvm.Cond.methodLink "BillMatchModel" (116 : Nat) ({ cls := "BillMatchModel", name := "lineAt", desc := "(II)I" } : Jvm.MethodName)) ∈ TB := tb_in (i := 737) (by decide +kernel) (by decide +kernel)
theorem mw_739 : (Jvm.Cond.instanceMethod ({ cls := "BillMatchModel", name := "lineAt", desc := "(II)I" } : Jvm.MethodName)) ∈ TB := tb_in (i := 739) (by decide +kernel) (by decide +kernel)
theorem mw_740 : (Jvm.Cond.code ({ cls := "BillMatchModel", name := "lineAt", desc := "(II)I" } : Jvm.MethodName) prog_6_method_27_code (5 : Nat) (Option.some Jvm.ClassFile.FieldType.int)) ∈ TB := tb_in (i := 740) (by decide +kernel) (by decide +kernel)
theorem mw_741 : (Jvm.Cond.methodLink "BillMatchLaw" (88 : Nat) ({ cls := "BillMatchModel", name := "title", desc := "(III)I" } : Jvm.MethodName)) ∈ TB := tb_in (i := 741) (by decide +kernel) (by decide +kernel)
theorem mw_742 : (Jvm.Cond.instanceMethod ({ cls := "BillMatchModel", name := "title", desc := "(III)I" } : Jvm.MethodName)) ∈ TB := tb_in (i := 742) (by decide +kernel) (by decide +kernel)
theorem mw_743 : (Jvm.Cond.selects "BillMatchModel" ({ cls := "BillMatchModel", name := "title", desc := "(III)I" } : Jvm.MethodName) ({ cls := "BillMatchModel", name := "title", desc := "(III)I" } : Jvm.MethodName)) ∈ TB := tb_in (i := 743) (by decide +kernel) (by decide +kernel)
theorem mw_744 : (Jvm.Cond.code ({ cls := "BillMatchModel", name := "title", desc := "(III)I" } : Jvm.MethodName) prog_6_method_30_code (4 : Nat) (Option.some Jvm.ClassFile.FieldType.int)) ∈ TB := tb_in (i := 744) (by decide +kernel) (by decide +kernel)
theorem mw_745 : (Jvm.Cond.methodLink "BillMatchModel" (122 : Nat) ({ cls := "BillMatchModel", name := "isHolder", desc := "(I)Z" } : Jvm.MethodName)) ∈ TB := tb_in (i := 745) (by decide +kernel) (by decide +kernel)
theorem mw_746 : (Jvm.Cond.static ({ cls := "BillMatchModel", name := "isHolder", desc := "(I)Z" } : Jvm.MethodName)) ∈ TB := tb_in (i := 746) (by decide +kernel) (by decide +kernel)
theorem mw_747 : (Jvm.Cond.code ({ cls := "BillMatchModel", name := "isHolder", desc := "(I)Z" } : Jvm.MethodName) prog_6_method_29_code (1 : Nat) (Option.some Jvm.ClassFile.FieldType.boolean)) ∈ TB := tb_in (i := 747) (by decide +kernel) (by decide +kernel)
theorem mw_748 : (Jvm.Cond.methodLink "BillMatchLaw" (91 : Nat) ({ cls := "BillMatchModel", name := "order", desc := "(III)I" } : Jvm.MethodName)) ∈ TB := tb_in (i := 748) (by decide +kernel) (by decide +kernel)
theorem mw_749 : (Jvm.Cond.instanceMethod ({ cls := "BillMatchModel", name := "order", desc := "(III)I" } : Jvm.MethodName)) ∈ TB := tb_in (i := 749) (by decide +kernel) (by decide +kernel)
theorem mw_750 : (Jvm.Cond.selects "BillMatchModel" ({ cls := "BillMatchModel", name := "order", desc := "(III)I" } : Jvm.MethodName) ({ cls := "BillMatchModel", name := "order", desc := "(III)I" } : Jvm.MethodName)) ∈ TB := tb_in (i := 750) (by decide +kernel) (by decide +kernel)
theorem mw_751 : (Jvm.Cond.code ({ cls := "BillMatchModel", name := "order", desc := "(III)I" } : Jvm.MethodName) prog_6_method_31_code (4 : Nat) (Option.some Jvm.ClassFile.FieldType.int)) ∈ TB := tb_in (i := 751) (by decide +kernel) (by decide +kernel)
theorem mw_752 : (Jvm.Cond.methodLink "BillMatchLaw" (95 : Nat) ({ cls := "BillMatchModel", name := "split", desc := "(II)I" } : Jvm.MethodName)) ∈ TB := tb_in (i := 752) (by decide +kernel) (by decide +kernel)
theorem mw_753 : (Jvm.Cond.instanceMethod ({ cls := "BillMatchModel", name := "split", desc := "(II)I" } : Jvm.MethodName)) ∈ TB := tb_in (i := 753) (by decide +kernel) (by decide +kernel)
theorem mw_754 : (Jvm.Cond.selects "BillMatchModel" ({ cls := "BillMatchModel", name := "split", desc := "(II)I" } : Jvm.MethodName) ({ cls := "BillMatchModel", name := "split", desc := "(II)I" } : Jvm.MethodName)) ∈ TB := tb_in (i := 754) (by decide +kernel) (by decide +kernel)
theorem mw_755 : (Jvm.Cond.code ({ cls := "BillMatchModel", name := "split", desc := "(II)I" } : Jvm.MethodName) prog_6_method_32_code (8 : Nat) (Option.some Jvm.ClassFile.FieldType.int)) ∈ TB := tb_in (i := 755) (by decide +kernel) (by decide +kernel)
theorem mw_756 : (Jvm.Cond.methodLink "BillMatchModel" (69 : Nat) ({ cls := "BillMatchModel", name := "weightOf", desc := "(I)I" } : Jvm.MethodName)) ∈ TB := tb_in (i := 756) (by decide +kernel) (by decide +kernel)
theorem mw_758 : (Jvm.Cond.instanceMethod ({ cls := "BillMatchModel", name := "weightOf", desc := "(I)I" } : Jvm.MethodName)) ∈ TB := tb_in (i := 758) (by decide +kernel) (by decide +kernel)
theorem mw_759 : (Jvm.Cond.code ({ cls := "BillMatchModel", name := "weightOf", desc := "(I)I" } : Jvm.MethodName) prog_6_method_11_code (4 : Nat) (Option.some Jvm.ClassFile.FieldType.int)) ∈ TB := tb_in (i := 759) (by decide +kernel) (by decide +kernel)
theorem mw_760 : (Jvm.Cond.methodLink "BillMatchModel" (73 : Nat) ({ cls := "BillMatchModel", name := "belowOf", desc := "(I)I" } : Jvm.MethodName)) ∈ TB := tb_in (i := 760) (by decide +kernel) (by decide +kernel)
theorem mw_762 : (Jvm.Cond.instanceMethod ({ cls := "BillMatchModel", name := "belowOf", desc := "(I)I" } : Jvm.MethodName)) ∈ TB := tb_in (i := 762) (by decide +kernel) (by decide +kernel)
theorem mw_763 : (Jvm.Cond.code ({ cls := "BillMatchModel", name := "belowOf", desc := "(I)I" } : Jvm.MethodName) prog_6_method_13_code (4 : Nat) (Option.some Jvm.ClassFile.FieldType.int)) ∈ TB := tb_in (i := 763) (by decide +kernel) (by decide +kernel)
theorem mw_764 : (Jvm.Cond.constant "BillMatchModel" (128 : Nat) (100000000 : Int32)) ∈ TB := tb_in (i := 764) (by decide +kernel) (by decide +kernel)
theorem mw_765 : (Jvm.Cond.methodLink "BillMatchLaw" (99 : Nat) ({ cls := "BillMatchModel", name := "leg", desc := "(II)Z" } : Jvm.MethodName)) ∈ TB := tb_in (i := 765) (by decide +kernel) (by decide +kernel)
theorem mw_766 : (Jvm.Cond.instanceMethod ({ cls := "BillMatchModel", name := "leg", desc := "(II)Z" } : Jvm.MethodName)) ∈ TB := tb_in (i := 766) (by decide +kernel) (by decide +kernel)
theorem mw_767 : (Jvm.Cond.selects "BillMatchModel" ({ cls := "BillMatchModel", name := "leg", desc := "(II)Z" } : Jvm.MethodName) ({ cls := "BillMatchModel", name := "leg", desc := "(II)Z" } : Jvm.MethodName)) ∈ TB := tb_in (i := 767) (by decide +kernel) (by decide +kernel)
theorem mw_768 : (Jvm.Cond.code ({ cls := "BillMatchModel", name := "leg", desc := "(II)Z" } : Jvm.MethodName) prog_6_method_35_code (3 : Nat) (Option.some Jvm.ClassFile.FieldType.boolean)) ∈ TB := tb_in (i := 768) (by decide +kernel) (by decide +kernel)
theorem mw_769 : (Jvm.Cond.methodLink "BillMatchModel" (129 : Nat) ({ cls := "BillMatchModel", name := "previousOf", desc := "(I)I" } : Jvm.MethodName)) ∈ TB := tb_in (i := 769) (by decide +kernel) (by decide +kernel)
theorem mw_771 : (Jvm.Cond.instanceMethod ({ cls := "BillMatchModel", name := "previousOf", desc := "(I)I" } : Jvm.MethodName)) ∈ TB := tb_in (i := 771) (by decide +kernel) (by decide +kernel)
theorem mw_772 : (Jvm.Cond.code ({ cls := "BillMatchModel", name := "previousOf", desc := "(I)I" } : Jvm.MethodName) prog_6_method_33_code (4 : Nat) (Option.some Jvm.ClassFile.FieldType.int)) ∈ TB := tb_in (i := 772) (by decide +kernel) (by decide +kernel)
theorem mw_773 : (Jvm.Cond.methodLink "BillMatchModel" (132 : Nat) ({ cls := "BillMatchModel", name := "firstOf", desc := "(I)I" } : Jvm.MethodName)) ∈ TB := tb_in (i := 773) (by decide +kernel) (by decide +kernel)
theorem mw_775 : (Jvm.Cond.instanceMethod ({ cls := "BillMatchModel", name := "firstOf", desc := "(I)I" } : Jvm.MethodName)) ∈ TB := tb_in (i := 775) (by decide +kernel) (by decide +kernel)
theorem mw_776 : (Jvm.Cond.code ({ cls := "BillMatchModel", name := "firstOf", desc := "(I)I" } : Jvm.MethodName) prog_6_method_34_code (3 : Nat) (Option.some Jvm.ClassFile.FieldType.int)) ∈ TB := tb_in (i := 776) (by decide +kernel) (by decide +kernel)
theorem mw_777 : (Jvm.Cond.methodLink "BillMatchLaw" (102 : Nat) ({ cls := "BillMatchModel", name := "look", desc := "(II)I" } : Jvm.MethodName)) ∈ TB := tb_in (i := 777) (by decide +kernel) (by decide +kernel)
theorem mw_778 : (Jvm.Cond.instanceMethod ({ cls := "BillMatchModel", name := "look", desc := "(II)I" } : Jvm.MethodName)) ∈ TB := tb_in (i := 778) (by decide +kernel) (by decide +kernel)
theorem mw_779 : (Jvm.Cond.selects "BillMatchModel" ({ cls := "BillMatchModel", name := "look", desc := "(II)I" } : Jvm.MethodName) ({ cls := "BillMatchModel", name := "look", desc := "(II)I" } : Jvm.MethodName)) ∈ TB := tb_in (i := 779) (by decide +kernel) (by decide +kernel)
theorem mw_780 : (Jvm.Cond.code ({ cls := "BillMatchModel", name := "look", desc := "(II)I" } : Jvm.MethodName) prog_6_method_36_code (4 : Nat) (Option.some Jvm.ClassFile.FieldType.int)) ∈ TB := tb_in (i := 780) (by decide +kernel) (by decide +kernel)
theorem mw_781 : (Jvm.Cond.methodLink "BillMatchModel" (135 : Nat) ({ cls := "BillMatchModel", name := "landedWeight", desc := "(I)I" } : Jvm.MethodName)) ∈ TB := tb_in (i := 781) (by decide +kernel) (by decide +kernel)
theorem mw_783 : (Jvm.Cond.instanceMethod ({ cls := "BillMatchModel", name := "landedWeight", desc := "(I)I" } : Jvm.MethodName)) ∈ TB := tb_in (i := 783) (by decide +kernel) (by decide +kernel)
theorem mw_784 : (Jvm.Cond.code ({ cls := "BillMatchModel", name := "landedWeight", desc := "(I)I" } : Jvm.MethodName) prog_6_method_17_code (6 : Nat) (Option.some Jvm.ClassFile.FieldType.int)) ∈ TB := tb_in (i := 784) (by decide +kernel) (by decide +kernel)
theorem mw_785 : (Jvm.Cond.methodLink "BillMatchModel" (138 : Nat) ({ cls := "BillMatchModel", name := "piecesOf", desc := "(I)I" } : Jvm.MethodName)) ∈ TB := tb_in (i := 785) (by decide +kernel) (by decide +kernel)
theorem mw_787 : (Jvm.Cond.instanceMethod ({ cls := "BillMatchModel", name := "piecesOf", desc := "(I)I" } : Jvm.MethodName)) ∈ TB := tb_in (i := 787) (by decide +kernel) (by decide +kernel)
theorem mw_788 : (Jvm.Cond.code ({ cls := "BillMatchModel", name := "piecesOf", desc := "(I)I" } : Jvm.MethodName) prog_6_method_12_code (4 : Nat) (Option.some Jvm.ClassFile.FieldType.int)) ∈ TB := tb_in (i := 788) (by decide +kernel) (by decide +kernel)
theorem mw_789 : (Jvm.Cond.methodLink "BillMatchModel" (141 : Nat) ({ cls := "BillMatchModel", name := "differs", desc := "(I)I" } : Jvm.MethodName)) ∈ TB := tb_in (i := 789) (by decide +kernel) (by decide +kernel)
theorem mw_791 : (Jvm.Cond.instanceMethod ({ cls := "BillMatchModel", name := "differs", desc := "(I)I" } : Jvm.MethodName)) ∈ TB := tb_in (i := 791) (by decide +kernel) (by decide +kernel)
theorem mw_792 : (Jvm.Cond.code ({ cls := "BillMatchModel", name := "differs", desc := "(I)I" } : Jvm.MethodName) prog_6_method_14_code (4 : Nat) (Option.some Jvm.ClassFile.FieldType.int)) ∈ TB := tb_in (i := 792) (by decide +kernel) (by decide +kernel)
theorem mw_793 : (Jvm.Cond.methodLink "BillMatchModel" (144 : Nat) ({ cls := "BillMatchModel", name := "boxesOf", desc := "(I)I" } : Jvm.MethodName)) ∈ TB := tb_in (i := 793) (by decide +kernel) (by decide +kernel)
theorem mw_795 : (Jvm.Cond.instanceMethod ({ cls := "BillMatchModel", name := "boxesOf", desc := "(I)I" } : Jvm.MethodName)) ∈ TB := tb_in (i := 795) (by decide +kernel) (by decide +kernel)
theorem mw_796 : (Jvm.Cond.code ({ cls := "BillMatchModel", name := "boxesOf", desc := "(I)I" } : Jvm.MethodName) prog_6_method_16_code (4 : Nat) (Option.some Jvm.ClassFile.FieldType.int)) ∈ TB := tb_in (i := 796) (by decide +kernel) (by decide +kernel)
theorem mw_797 : (Jvm.Cond.methodLink "BillMatchModel" (147 : Nat) ({ cls := "BillMatchModel", name := "masterOf", desc := "(I)I" } : Jvm.MethodName)) ∈ TB := tb_in (i := 797) (by decide +kernel) (by decide +kernel)
theorem mw_799 : (Jvm.Cond.instanceMethod ({ cls := "BillMatchModel", name := "masterOf", desc := "(I)I" } : Jvm.MethodName)) ∈ TB := tb_in (i := 799) (by decide +kernel) (by decide +kernel)
theorem mw_800 : (Jvm.Cond.code ({ cls := "BillMatchModel", name := "masterOf", desc := "(I)I" } : Jvm.MethodName) prog_6_method_9_code (3 : Nat) (Option.some Jvm.ClassFile.FieldType.int)) ∈ TB := tb_in (i := 800) (by decide +kernel) (by decide +kernel)
theorem mw_801 : (Jvm.Cond.methodLink "BillMatchLaw" (105 : Nat) ({ cls := "BillMatchModel", name := "seen", desc := "(II)I" } : Jvm.MethodName)) ∈ TB := tb_in (i := 801) (by decide +kernel) (by decide +kernel)
theorem mw_802 : (Jvm.Cond.instanceMethod ({ cls := "BillMatchModel", name := "seen", desc := "(II)I" } : Jvm.MethodName)) ∈ TB := tb_in (i := 802) (by decide +kernel) (by decide +kernel)
theorem mw_803 : (Jvm.Cond.selects "BillMatchModel" ({ cls := "BillMatchModel", name := "seen", desc := "(II)I" } : Jvm.MethodName) ({ cls := "BillMatchModel", name := "seen", desc := "(II)I" } : Jvm.MethodName)) ∈ TB := tb_in (i := 803) (by decide +kernel) (by decide +kernel)
theorem mw_804 : (Jvm.Cond.code ({ cls := "BillMatchModel", name := "seen", desc := "(II)I" } : Jvm.MethodName) prog_6_method_37_code (6 : Nat) (Option.some Jvm.ClassFile.FieldType.int)) ∈ TB := tb_in (i := 804) (by decide +kernel) (by decide +kernel)
theorem mw_805 : (Jvm.Cond.methodLink "BillMatchModel" (150 : Nat) ({ cls := "BillMatchModel", name := "waitsNow", desc := "(I)Z" } : Jvm.MethodName)) ∈ TB := tb_in (i := 805) (by decide +kernel) (by decide +kernel)
theorem mw_807 : (Jvm.Cond.instanceMethod ({ cls := "BillMatchModel", name := "waitsNow", desc := "(I)Z" } : Jvm.MethodName)) ∈ TB := tb_in (i := 807) (by decide +kernel) (by decide +kernel)
theorem mw_808 : (Jvm.Cond.code ({ cls := "BillMatchModel", name := "waitsNow", desc := "(I)Z" } : Jvm.MethodName) prog_6_method_18_code (2 : Nat) (Option.some Jvm.ClassFile.FieldType.boolean)) ∈ TB := tb_in (i := 808) (by decide +kernel) (by decide +kernel)
theorem mw_809 : (Jvm.Cond.methodLink "BillMatchLaw" (110 : Nat) ({ cls := "BillMatchModel", name := "waits", desc := "(I)I" } : Jvm.MethodName)) ∈ TB := tb_in (i := 809) (by decide +kernel) (by decide +kernel)
theorem mw_810 : (Jvm.Cond.instanceMethod ({ cls := "BillMatchModel", name := "waits", desc := "(I)I" } : Jvm.MethodName)) ∈ TB := tb_in (i := 810) (by decide +kernel) (by decide +kernel)
theorem mw_811 : (Jvm.Cond.selects "BillMatchModel" ({ cls := "BillMatchModel", name := "waits", desc := "(I)I" } : Jvm.MethodName) ({ cls := "BillMatchModel", name := "waits", desc := "(I)I" } : Jvm.MethodName)) ∈ TB := tb_in (i := 811) (by decide +kernel) (by decide +kernel)
theorem mw_812 : (Jvm.Cond.code ({ cls := "BillMatchModel", name := "waits", desc := "(I)I" } : Jvm.MethodName) prog_6_method_38_code (4 : Nat) (Option.some Jvm.ClassFile.FieldType.int)) ∈ TB := tb_in (i := 812) (by decide +kernel) (by decide +kernel)
theorem mw_813 : (Jvm.Cond.methodLink "BillMatchLaw" (113 : Nat) ({ cls := "BillMatchModel", name := "like", desc := "(III)I" } : Jvm.MethodName)) ∈ TB := tb_in (i := 813) (by decide +kernel) (by decide +kernel)
theorem mw_814 : (Jvm.Cond.instanceMethod ({ cls := "BillMatchModel", name := "like", desc := "(III)I" } : Jvm.MethodName)) ∈ TB := tb_in (i := 814) (by decide +kernel) (by decide +kernel)
theorem mw_815 : (Jvm.Cond.selects "BillMatchModel" ({ cls := "BillMatchModel", name := "like", desc := "(III)I" } : Jvm.MethodName) ({ cls := "BillMatchModel", name := "like", desc := "(III)I" } : Jvm.MethodName)) ∈ TB := tb_in (i := 815) (by decide +kernel) (by decide +kernel)
theorem mw_816 : (Jvm.Cond.code ({ cls := "BillMatchModel", name := "like", desc := "(III)I" } : Jvm.MethodName) prog_6_method_40_code (7 : Nat) (Option.some Jvm.ClassFile.FieldType.int)) ∈ TB := tb_in (i := 816) (by decide +kernel) (by decide +kernel)
theorem mw_817 : (Jvm.Cond.methodLink "BillMatchModel" (153 : Nat) ({ cls := "BillMatchModel", name := "isLike", desc := "(II)Z" } : Jvm.MethodName)) ∈ TB := tb_in (i := 817) (by decide +kernel) (by decide +kernel)
theorem mw_818 : (Jvm.Cond.static ({ cls := "BillMatchModel", name := "isLike", desc := "(II)Z" } : Jvm.MethodName)) ∈ TB := tb_in (i := 818) (by decide +kernel) (by decide +kernel)
theorem mw_819 : (Jvm.Cond.code ({ cls := "BillMatchModel", name := "isLike", desc := "(II)Z" } : Jvm.MethodName) prog_6_method_39_code (7 : Nat) (Option.some Jvm.ClassFile.FieldType.boolean)) ∈ TB := tb_in (i := 819) (by decide +kernel) (by decide +kernel)
theorem mw_820 : (Jvm.Cond.methodLink "BillMatchLaw" (117 : Nat) ({ cls := "BillMatchModel", name := "count", desc := "(I)I" } : Jvm.MethodName)) ∈ TB := tb_in (i := 820) (by decide +kernel) (by decide +kernel)
theorem mw_821 : (Jvm.Cond.instanceMethod ({ cls := "BillMatchModel", name := "count", desc := "(I)I" } : Jvm.MethodName)) ∈ TB := tb_in (i := 821) (by decide +kernel) (by decide +kernel)
theorem mw_822 : (Jvm.Cond.selects "BillMatchModel" ({ cls := "BillMatchModel", name := "count", desc := "(I)I" } : Jvm.MethodName) ({ cls := "BillMatchModel", name := "count", desc := "(I)I" } : Jvm.MethodName)) ∈ TB := tb_in (i := 822) (by decide +kernel) (by decide +kernel)
theorem mw_823 : (Jvm.Cond.code ({ cls := "BillMatchModel", name := "count", desc := "(I)I" } : Jvm.MethodName) prog_6_method_42_code (5 : Nat) (Option.some Jvm.ClassFile.FieldType.int)) ∈ TB := tb_in (i := 823) (by decide +kernel) (by decide +kernel)
theorem mw_824 : (Jvm.Cond.methodLink "BillMatchModel" (156 : Nat) ({ cls := "BillMatchModel", name := "differing", desc := "()I" } : Jvm.MethodName)) ∈ TB := tb_in (i := 824) (by decide +kernel) (by decide +kernel)
theorem mw_826 : (Jvm.Cond.instanceMethod ({ cls := "BillMatchModel", name := "differing", desc := "()I" } : Jvm.MethodName)) ∈ TB := tb_in (i := 826) (by decide +kernel) (by decide +kernel)
theorem mw_827 : (Jvm.Cond.code ({ cls := "BillMatchModel", name := "differing", desc := "()I" } : Jvm.MethodName) prog_6_method_41_code (5 : Nat) (Option.some Jvm.ClassFile.FieldType.int)) ∈ TB := tb_in (i := 827) (by decide +kernel) (by decide +kernel)
end
section
set_option maxHeartbeats 4000000 in
set_option maxRecDepth 100000 in
theorem c_J_bitCount (l : Launch) (D : va_G) (w : va_W) (tys : List (ClassId × FieldType)) (x : Int64) : RD l y_J_bitCount (.code y_J_bitCount b_J_bitCount 2 (some .int) :: TB) ({ frames := 0, cells := 0, slots := 0, locals := 0 } : Room) [.long x] D classes w tys (nI (popc x)) := by
  refine rd_of (by decide +kernel) (rfl) (Nat.le_of_ble_eq_true rfl) ?_
  intro p e s m args below meth c Q ls hx hb hml htb hown hP hK hl hret
  have hl : lv_has ls 2 [(0, .long x)] := hl
  refine lv_lload_n hx hb d_J_bitCount_0 rfl (lv_at hl 0 rfl) ?_
  refine lv_lload_n hx hb d_J_bitCount_1 rfl (lv_at hl 0 rfl) ?_
  refine lv_iconst (v := 1) hx hb d_J_bitCount_2 (by decide) ?_
  refine lv_lushr (v := ((x).toUInt64 >>> ((1 : Int32).toInt64.toUInt64 &&& Int64.toUInt64 63)).toInt64) hx hb d_J_bitCount_3 rfl ?_
  refine lv_ldc2 (v := 6148914691236517205) hx hb hown (htb _ mw_200) d_J_bitCount_4 ?_
  refine lv_land hx hb d_J_bitCount_7 ?_
  refine lv_lsub hx hb d_J_bitCount_8 ?_
  refine lv_topl (fun y1 ey1 => ?_)
  refine lv_lstore_n (lv' := [(0, .long y1)]) hx hb d_J_bitCount_9 rfl hl (by decide) rfl (fun ls hl => ?_)
  refine lv_lload_n hx hb d_J_bitCount_10 rfl (lv_at hl 0 rfl) ?_
  refine lv_ldc2 (v := 3689348814741910323) hx hb hown (htb _ mw_201) d_J_bitCount_11 ?_
  refine lv_land hx hb d_J_bitCount_14 ?_
  refine lv_lload_n hx hb d_J_bitCount_15 rfl (lv_at hl 0 rfl) ?_
  refine lv_iconst (v := 2) hx hb d_J_bitCount_16 (by decide) ?_
  refine lv_lushr (v := ((y1).toUInt64 >>> ((2 : Int32).toInt64.toUInt64 &&& Int64.toUInt64 63)).toInt64) hx hb d_J_bitCount_17 rfl ?_
  refine lv_ldc2 (v := 3689348814741910323) hx hb hown (htb _ mw_201) d_J_bitCount_18 ?_
  refine lv_land hx hb d_J_bitCount_21 ?_
  refine lv_ladd hx hb d_J_bitCount_22 ?_
  refine lv_topl (fun y2 ey2 => ?_)
  refine lv_lstore_n (lv' := [(0, .long y2)]) hx hb d_J_bitCount_23 rfl hl (by decide) rfl (fun ls hl => ?_)
  refine lv_lload_n hx hb d_J_bitCount_24 rfl (lv_at hl 0 rfl) ?_
  refine lv_lload_n hx hb d_J_bitCount_25 rfl (lv_at hl 0 rfl) ?_
  refine lv_iconst (v := 4) hx hb d_J_bitCount_26 (by decide) ?_
  refine lv_lushr (v := ((y2).toUInt64 >>> ((4 : Int32).toInt64.toUInt64 &&& Int64.toUInt64 63)).toInt64) hx hb d_J_bitCount_27 rfl ?_
  refine lv_ladd hx hb d_J_bitCount_28 ?_
  refine lv_ldc2 (v := 1085102592571150095) hx hb hown (htb _ mw_202) d_J_bitCount_29 ?_
  refine lv_land hx hb d_J_bitCount_32 ?_
  refine lv_topl (fun y3 ey3 => ?_)
  refine lv_lstore_n (lv' := [(0, .long y3)]) hx hb d_J_bitCount_33 rfl hl (by decide) rfl (fun ls hl => ?_)
  refine lv_lload_n hx hb d_J_bitCount_34 rfl (lv_at hl 0 rfl) ?_
  refine lv_lload_n hx hb d_J_bitCount_35 rfl (lv_at hl 0 rfl) ?_
  refine lv_bipush (v := 8) hx hb d_J_bitCount_36 (by decide) ?_
  refine lv_lushr (v := ((y3).toUInt64 >>> ((8 : Int32).toInt64.toUInt64 &&& Int64.toUInt64 63)).toInt64) hx hb d_J_bitCount_38 rfl ?_
  refine lv_ladd hx hb d_J_bitCount_39 ?_
  refine lv_topl (fun y4 ey4 => ?_)
  refine lv_lstore_n (lv' := [(0, .long y4)]) hx hb d_J_bitCount_40 rfl hl (by decide) rfl (fun ls hl => ?_)
  refine lv_lload_n hx hb d_J_bitCount_41 rfl (lv_at hl 0 rfl) ?_
  refine lv_lload_n hx hb d_J_bitCount_42 rfl (lv_at hl 0 rfl) ?_
  refine lv_bipush (v := 16) hx hb d_J_bitCount_43 (by decide) ?_
  refine lv_lushr (v := ((y4).toUInt64 >>> ((16 : Int32).toInt64.toUInt64 &&& Int64.toUInt64 63)).toInt64) hx hb d_J_bitCount_45 rfl ?_
  refine lv_ladd hx hb d_J_bitCount_46 ?_
  refine lv_topl (fun y5 ey5 => ?_)
  refine lv_lstore_n (lv' := [(0, .long y5)]) hx hb d_J_bitCount_47 rfl hl (by decide) rfl (fun ls hl => ?_)
  refine lv_lload_n hx hb d_J_bitCount_48 rfl (lv_at hl 0 rfl) ?_
  refine lv_lload_n hx hb d_J_bitCount_49 rfl (lv_at hl 0 rfl) ?_
  refine lv_bipush (v := 32) hx hb d_J_bitCount_50 (by decide) ?_
  refine lv_lushr (v := ((y5).toUInt64 >>> ((32 : Int32).toInt64.toUInt64 &&& Int64.toUInt64 63)).toInt64) hx hb d_J_bitCount_52 rfl ?_
  refine lv_ladd hx hb d_J_bitCount_53 ?_
  refine lv_topl (fun y6 ey6 => ?_)
  refine lv_lstore_n (lv' := [(0, .long y6)]) hx hb d_J_bitCount_54 rfl hl (by decide) rfl (fun ls hl => ?_)
  refine lv_lload_n hx hb d_J_bitCount_55 rfl (lv_at hl 0 rfl) ?_
  refine lv_l2i (v := (y6).toInt32) hx hb d_J_bitCount_56 rfl ?_
  refine lv_bipush (v := 127) hx hb d_J_bitCount_57 (by decide) ?_
  refine lv_iand hx hb d_J_bitCount_59 ?_
  exact hret _ _ _ (bc_eq x y1 y2 y3 y4 y5 y6 ey1 ey2 ey3 ey4 ey5 ey6) d_J_bitCount_60
set_option maxHeartbeats 4000000 in
set_option maxRecDepth 100000 in
theorem c_M_isCall (l : Launch) (D : va_G) (w : va_W) (tys : List (ClassId × FieldType)) (x : Int32) : RD l y_M_isCall (.code y_M_isCall b_M_isCall 1 (some .boolean) :: TB) ({ frames := 0, cells := 0, slots := 0, locals := 0 } : Room) [.int x] D classes w tys (bI (isCallS x)) := by
  refine rd_of (by decide +kernel) (bI_nar _) (Nat.le_of_ble_eq_true rfl) ?_
  intro p e s m args below meth c Q ls hx hb hml htb hown hP hK hl hret
  have hl : lv_has ls 1 [(0, .int x)] := hl
  refine lv_iload_n hx hb d_M_isCall_0 rfl (lv_at hl 0 rfl) ?_
  refine lv_if_lt (tgt := 13) hx hb d_M_isCall_1 (by decide) (fun c1 => ?_) (fun c1 => ?_)
  · refine lv_iconst (v := 0) hx hb d_M_isCall_13 (by decide) ?_
    exact hret _ _ _ (by simp [isCallS, bI, c1]) d_M_isCall_14
  · refine lv_iload_n hx hb d_M_isCall_4 rfl (lv_at hl 0 rfl) ?_
    refine lv_iconst (v := 4) hx hb d_M_isCall_5 (by decide) ?_
    refine lv_icmp_ge (tgt := 13) hx hb d_M_isCall_6 (by decide) (fun c2 => ?_) (fun c2 => ?_)
    · refine lv_iconst (v := 0) hx hb d_M_isCall_13 (by decide) ?_
      exact hret _ _ _ (by simp [isCallS, bI, c1, c2]) d_M_isCall_14
    · refine lv_iconst (v := 1) hx hb d_M_isCall_9 (by decide) ?_
      refine lv_goto (tgt := 14) hx hb d_M_isCall_10 (by decide) ?_
      exact hret _ _ _ (by simp [isCallS, bI, c1, c2]) d_M_isCall_14
set_option maxHeartbeats 4000000 in
set_option maxRecDepth 100000 in
theorem c_M_isNumber (l : Launch) (D : va_G) (w : va_W) (tys : List (ClassId × FieldType)) (x : Int32) : RD l y_M_isNumber (.code y_M_isNumber b_M_isNumber 1 (some .boolean) :: TB) ({ frames := 0, cells := 0, slots := 0, locals := 0 } : Room) [.int x] D classes w tys (bI (isNumS x)) := by
  refine rd_of (by decide +kernel) (bI_nar _) (Nat.le_of_ble_eq_true rfl) ?_
  intro p e s m args below meth c Q ls hx hb hml htb hown hP hK hl hret
  have hl : lv_has ls 1 [(0, .int x)] := hl
  refine lv_iload_n hx hb d_M_isNumber_0 rfl (lv_at hl 0 rfl) ?_
  refine lv_if_lt (tgt := 15) hx hb d_M_isNumber_1 (by decide) (fun c1 => ?_) (fun c1 => ?_)
  · refine lv_iconst (v := 0) hx hb d_M_isNumber_15 (by decide) ?_
    exact hret _ _ _ (by simp [isNumS, bI, c1]) d_M_isNumber_16
  · refine lv_iload_n hx hb d_M_isNumber_4 rfl (lv_at hl 0 rfl) ?_
    refine lv_ldcw (v := 99999999) hx hb hown (htb _ mw_294) d_M_isNumber_5 ?_
    refine lv_icmp_gt (tgt := 15) hx hb d_M_isNumber_8 (by decide) (fun c2 => ?_) (fun c2 => ?_)
    · refine lv_iconst (v := 0) hx hb d_M_isNumber_15 (by decide) ?_
      exact hret _ _ _ (by simp [isNumS, bI, c1, c2]) d_M_isNumber_16
    · refine lv_iconst (v := 1) hx hb d_M_isNumber_11 (by decide) ?_
      refine lv_goto (tgt := 16) hx hb d_M_isNumber_12 (by decide) ?_
      exact hret _ _ _ (by simp [isNumS, bI, c1, c2]) d_M_isNumber_16
set_option maxHeartbeats 4000000 in
set_option maxRecDepth 100000 in
theorem c_M_isWeight (l : Launch) (D : va_G) (w : va_W) (tys : List (ClassId × FieldType)) (x : Int32) : RD l y_M_isWeight (.code y_M_isWeight b_M_isWeight 1 (some .boolean) :: TB) ({ frames := 0, cells := 0, slots := 0, locals := 0 } : Room) [.int x] D classes w tys (bI (isWtS x)) := by
  refine rd_of (by decide +kernel) (bI_nar _) (Nat.le_of_ble_eq_true rfl) ?_
  intro p e s m args below meth c Q ls hx hb hml htb hown hP hK hl hret
  have hl : lv_has ls 1 [(0, .int x)] := hl
  refine lv_iload_n hx hb d_M_isWeight_0 rfl (lv_at hl 0 rfl) ?_
  refine lv_if_lt (tgt := 15) hx hb d_M_isWeight_1 (by decide) (fun c1 => ?_) (fun c1 => ?_)
  · refine lv_iconst (v := 0) hx hb d_M_isWeight_15 (by decide) ?_
    exact hret _ _ _ (by simp [isWtS, bI, c1]) d_M_isWeight_16
  · refine lv_iload_n hx hb d_M_isWeight_4 rfl (lv_at hl 0 rfl) ?_
    refine lv_ldcw (v := 1000000) hx hb hown (htb _ mw_222) d_M_isWeight_5 ?_
    refine lv_icmp_gt (tgt := 15) hx hb d_M_isWeight_8 (by decide) (fun c2 => ?_) (fun c2 => ?_)
    · refine lv_iconst (v := 0) hx hb d_M_isWeight_15 (by decide) ?_
      exact hret _ _ _ (by simp [isWtS, bI, c1, c2]) d_M_isWeight_16
    · refine lv_iconst (v := 1) hx hb d_M_isWeight_11 (by decide) ?_
      refine lv_goto (tgt := 16) hx hb d_M_isWeight_12 (by decide) ?_
      exact hret _ _ _ (by simp [isWtS, bI, c1, c2]) d_M_isWeight_16
set_option maxHeartbeats 4000000 in
set_option maxRecDepth 100000 in
theorem c_M_isHolder (l : Launch) (D : va_G) (w : va_W) (tys : List (ClassId × FieldType)) (x : Int32) : RD l y_M_isHolder (.code y_M_isHolder b_M_isHolder 1 (some .boolean) :: TB) ({ frames := 0, cells := 0, slots := 0, locals := 0 } : Room) [.int x] D classes w tys (bI (isHoS x)) := by
  refine rd_of (by decide +kernel) (bI_nar _) (Nat.le_of_ble_eq_true rfl) ?_
  intro p e s m args below meth c Q ls hx hb hml htb hown hP hK hl hret
  have hl : lv_has ls 1 [(0, .int x)] := hl
  refine lv_iload_n hx hb d_M_isHolder_0 rfl (lv_at hl 0 rfl) ?_
  refine lv_if_lt (tgt := 14) hx hb d_M_isHolder_1 (by decide) (fun c1 => ?_) (fun c1 => ?_)
  · refine lv_iconst (v := 0) hx hb d_M_isHolder_14 (by decide) ?_
    exact hret _ _ _ (by simp [isHoS, bI, c1]) d_M_isHolder_15
  · refine lv_iload_n hx hb d_M_isHolder_4 rfl (lv_at hl 0 rfl) ?_
    refine lv_bipush (v := 10) hx hb d_M_isHolder_5 (by decide) ?_
    refine lv_icmp_ge (tgt := 14) hx hb d_M_isHolder_7 (by decide) (fun c2 => ?_) (fun c2 => ?_)
    · refine lv_iconst (v := 0) hx hb d_M_isHolder_14 (by decide) ?_
      exact hret _ _ _ (by simp [isHoS, bI, c1, c2]) d_M_isHolder_15
    · refine lv_iconst (v := 1) hx hb d_M_isHolder_10 (by decide) ?_
      refine lv_goto (tgt := 15) hx hb d_M_isHolder_11 (by decide) ?_
      exact hret _ _ _ (by simp [isHoS, bI, c1, c2]) d_M_isHolder_15
set_option maxHeartbeats 4000000 in
set_option maxRecDepth 100000 in
theorem c_M_areAlike (l : Launch) (D : va_G) (w : va_W) (tys : List (ClassId × FieldType)) (a0 b0 : Nat) (ha0 : a0 < 100000000) (hb0 : b0 < 100000000) : RD l y_M_areAlike (.code y_M_areAlike b_M_areAlike 5 (some .boolean) :: TB) ({ frames := 0, cells := 0, slots := 0, locals := 0 } : Room) [.int (nI a0), .int (nI b0)] D classes w tys (bI (alkL 8 a0 b0)) := by
  refine rd_of (by decide +kernel) (bI_nar _) (Nat.le_of_ble_eq_true rfl) ?_
  intro p e s m args below meth c Q ls hx hb hml htb hown hP hK hl hret
  have hl : lv_has ls 5 [(0, .int (nI a0)), (1, .int (nI b0))] := hl
  refine lv_iload_n hx hb d_M_areAlike_0 rfl (lv_at hl 0 rfl) ?_
  refine lv_istore_n (lv' := [(2, .int (nI a0)), (0, .int (nI a0)), (1, .int (nI b0))]) hx hb d_M_areAlike_1 rfl hl (by decide) rfl (fun ls hl => ?_)
  refine lv_iload_n hx hb d_M_areAlike_2 rfl (lv_at hl 2 rfl) ?_
  refine lv_istore_n (lv' := [(3, .int (nI b0)), (2, .int (nI a0)), (0, .int (nI a0)), (1, .int (nI b0))]) hx hb d_M_areAlike_3 rfl hl (by decide) rfl (fun ls hl => ?_)
  refine lv_iconst (v := 0) hx hb d_M_areAlike_4 (by decide) ?_
  refine lv_istore (lv' := [(4, .int 0), (3, .int (nI b0)), (2, .int (nI a0)), (0, .int (nI a0)), (1, .int (nI b0))]) hx hb d_M_areAlike_5 hl (by decide) rfl (fun ls hl => ?_)
  have lp7 : ∀ (n : Nat) (i a b : Nat), i ≤ 8 → 9 ≤ i + n → a < 100000000 → b < 100000000 → alkL (8 - i) a b = alkL 8 a0 b0 → ∀ (ls : Array Slot), lv_has ls 5 [(2, .int (nI a)), (3, .int (nI b)), (4, .int (nI i))] → W p l e ({ frames := 0, cells := 0, slots := 0, locals := 0 } : Room) s m args below meth c s.heap [] 0 0 Q (F0 m 7 ls []) := by
    intro n
    induction n with
    | zero => intro i a b hi hm ha9 hb9 hf ls hl; exact absurd hm (by omega)
    | succ n ih =>
      intro i a b hi hm ha9 hb9 hf ls hl
      refine lv_iload hx hb d_M_areAlike_7 (lv_at hl 2 rfl) ?_
      refine lv_bipush (v := 8) hx hb d_M_areAlike_9 (by decide) ?_
      refine q_icmp_ge (a := i) (b := 8) (tgt := 41) hx hb (by omega) (by omega) d_M_areAlike_11 (by decide) (fun c1 => ?_) (fun c1 => ?_)
      · have he : alkE a b = alkL 8 a0 b0 := by rw [← hf, show 8 - i = 0 by omega]; rfl
        refine lv_iload_n hx hb d_M_areAlike_41 rfl (lv_at hl 0 rfl) ?_
        refine lv_bipush (v := 10) hx hb d_M_areAlike_42 (by decide) ?_
        refine lv_idiv hx hb d_M_areAlike_44 (by decide) ?_
        refine W.eq (congrArg (fun z => F0 m 45 ls (.int z :: [])) (show ((nI a) / 10) = (nI (a / 10)) from pk_div (d := 10) (by omega) (by decide) (by decide))) ?_
        refine lv_iload_n hx hb d_M_areAlike_45 rfl (lv_at hl 1 rfl) ?_
        refine lv_bipush (v := 10) hx hb d_M_areAlike_46 (by decide) ?_
        refine lv_idiv hx hb d_M_areAlike_48 (by decide) ?_
        refine W.eq (congrArg (fun z => F0 m 49 ls (.int z :: [.int (nI (a / 10))])) (show ((nI b) / 10) = (nI (b / 10)) from pk_div (d := 10) (by omega) (by decide) (by decide))) ?_
        refine q_icmp_ne (a := (a / 10)) (b := (b / 10)) (tgt := 54) hx hb (by omega) (by omega) d_M_areAlike_49 (by decide) (fun c2 => ?_) (fun c2 => ?_)
        · refine lv_iload_n hx hb d_M_areAlike_54 rfl (lv_at hl 0 rfl) ?_
          refine lv_bipush (v := 10) hx hb d_M_areAlike_55 (by decide) ?_
          refine lv_irem hx hb d_M_areAlike_57 (by decide) ?_
          refine W.eq (congrArg (fun z => F0 m 58 ls (.int z :: [])) (show ((nI a) - (nI a) / 10 * 10) = (nI (a % 10)) from pk_rem (d := 10) (by omega) (by decide) (by decide))) ?_
          refine lv_iload_n hx hb d_M_areAlike_58 rfl (lv_at hl 1 rfl) ?_
          refine lv_bipush (v := 10) hx hb d_M_areAlike_59 (by decide) ?_
          refine lv_idiv hx hb d_M_areAlike_61 (by decide) ?_
          refine W.eq (congrArg (fun z => F0 m 62 ls (.int z :: [.int (nI (a % 10))])) (show ((nI b) / 10) = (nI (b / 10)) from pk_div (d := 10) (by omega) (by decide) (by decide))) ?_
          refine lv_bipush (v := 10) hx hb d_M_areAlike_62 (by decide) ?_
          refine lv_irem hx hb d_M_areAlike_64 (by decide) ?_
          refine W.eq (congrArg (fun z => F0 m 65 ls (.int z :: [.int (nI (a % 10))])) (show ((nI (b / 10)) - (nI (b / 10)) / 10 * 10) = (nI ((b / 10) % 10)) from pk_rem (d := 10) (by omega) (by decide) (by decide))) ?_
          refine q_icmp_ne (a := (a % 10)) (b := ((b / 10) % 10)) (tgt := 97) hx hb (by omega) (by omega) d_M_areAlike_65 (by decide) (fun c3 => ?_) (fun c3 => ?_)
          · refine lv_iconst (v := 0) hx hb d_M_areAlike_97 (by decide) ?_
            exact hret _ _ _ (by rw [← he]; simp [alkE, bI, c1, c2, c3]) d_M_areAlike_98
          · refine lv_iload_n hx hb d_M_areAlike_68 rfl (lv_at hl 0 rfl) ?_
            refine lv_bipush (v := 10) hx hb d_M_areAlike_69 (by decide) ?_
            refine lv_idiv hx hb d_M_areAlike_71 (by decide) ?_
            refine W.eq (congrArg (fun z => F0 m 72 ls (.int z :: [])) (show ((nI a) / 10) = (nI (a / 10)) from pk_div (d := 10) (by omega) (by decide) (by decide))) ?_
            refine lv_bipush (v := 10) hx hb d_M_areAlike_72 (by decide) ?_
            refine lv_irem hx hb d_M_areAlike_74 (by decide) ?_
            refine W.eq (congrArg (fun z => F0 m 75 ls (.int z :: [])) (show ((nI (a / 10)) - (nI (a / 10)) / 10 * 10) = (nI ((a / 10) % 10)) from pk_rem (d := 10) (by omega) (by decide) (by decide))) ?_
            refine lv_iload_n hx hb d_M_areAlike_75 rfl (lv_at hl 1 rfl) ?_
            refine lv_bipush (v := 10) hx hb d_M_areAlike_76 (by decide) ?_
            refine lv_irem hx hb d_M_areAlike_78 (by decide) ?_
            refine W.eq (congrArg (fun z => F0 m 79 ls (.int z :: [.int (nI ((a / 10) % 10))])) (show ((nI b) - (nI b) / 10 * 10) = (nI (b % 10)) from pk_rem (d := 10) (by omega) (by decide) (by decide))) ?_
            refine q_icmp_ne (a := ((a / 10) % 10)) (b := (b % 10)) (tgt := 97) hx hb (by omega) (by omega) d_M_areAlike_79 (by decide) (fun c4 => ?_) (fun c4 => ?_)
            · refine lv_iconst (v := 0) hx hb d_M_areAlike_97 (by decide) ?_
              exact hret _ _ _ (by rw [← he]; simp [alkE, bI, c1, c2, c3, c4]) d_M_areAlike_98
            · refine lv_iload_n hx hb d_M_areAlike_82 rfl (lv_at hl 0 rfl) ?_
              refine lv_bipush (v := 100) hx hb d_M_areAlike_83 (by decide) ?_
              refine lv_idiv hx hb d_M_areAlike_85 (by decide) ?_
              refine W.eq (congrArg (fun z => F0 m 86 ls (.int z :: [])) (show ((nI a) / 100) = (nI (a / 100)) from pk_div (d := 100) (by omega) (by decide) (by decide))) ?_
              refine lv_iload_n hx hb d_M_areAlike_86 rfl (lv_at hl 1 rfl) ?_
              refine lv_bipush (v := 100) hx hb d_M_areAlike_87 (by decide) ?_
              refine lv_idiv hx hb d_M_areAlike_89 (by decide) ?_
              refine W.eq (congrArg (fun z => F0 m 90 ls (.int z :: [.int (nI (a / 100))])) (show ((nI b) / 100) = (nI (b / 100)) from pk_div (d := 100) (by omega) (by decide) (by decide))) ?_
              refine q_icmp_ne (a := (a / 100)) (b := (b / 100)) (tgt := 97) hx hb (by omega) (by omega) d_M_areAlike_90 (by decide) (fun c5 => ?_) (fun c5 => ?_)
              · refine lv_iconst (v := 0) hx hb d_M_areAlike_97 (by decide) ?_
                exact hret _ _ _ (by rw [← he]; simp [alkE, bI, c1, c2, c3, c4, c5]) d_M_areAlike_98
              · refine lv_iconst (v := 1) hx hb d_M_areAlike_93 (by decide) ?_
                refine lv_goto (tgt := 98) hx hb d_M_areAlike_94 (by decide) ?_
                exact hret _ _ _ (by rw [← he]; simp [alkE, bI, c1, c2, c3, c4, c5]) d_M_areAlike_98
        · refine lv_iconst (v := 1) hx hb d_M_areAlike_52 (by decide) ?_
          exact hret _ _ _ (by rw [← he]; simp [alkE, bI, c1, c2]) d_M_areAlike_53
      · refine lv_iload_n hx hb d_M_areAlike_14 rfl (lv_at hl 0 rfl) ?_
        refine lv_bipush (v := 10) hx hb d_M_areAlike_15 (by decide) ?_
        refine lv_irem hx hb d_M_areAlike_17 (by decide) ?_
        refine W.eq (congrArg (fun z => F0 m 18 ls (.int z :: [])) (show ((nI a) - (nI a) / 10 * 10) = (nI (a % 10)) from pk_rem (d := 10) (by omega) (by decide) (by decide))) ?_
        refine lv_iload_n hx hb d_M_areAlike_18 rfl (lv_at hl 1 rfl) ?_
        refine lv_bipush (v := 10) hx hb d_M_areAlike_19 (by decide) ?_
        refine lv_irem hx hb d_M_areAlike_21 (by decide) ?_
        refine W.eq (congrArg (fun z => F0 m 22 ls (.int z :: [.int (nI (a % 10))])) (show ((nI b) - (nI b) / 10 * 10) = (nI (b % 10)) from pk_rem (d := 10) (by omega) (by decide) (by decide))) ?_
        refine q_icmp_ne (a := (a % 10)) (b := (b % 10)) (tgt := 41) hx hb (by omega) (by omega) d_M_areAlike_22 (by decide) (fun c6 => ?_) (fun c6 => ?_)
        · have he : alkE a b = alkL 8 a0 b0 := by rw [← hf, show 8 - i = (8 - (i + 1)) + 1 by omega]; exact (if_neg c6).symm
          refine lv_iload_n hx hb d_M_areAlike_41 rfl (lv_at hl 0 rfl) ?_
          refine lv_bipush (v := 10) hx hb d_M_areAlike_42 (by decide) ?_
          refine lv_idiv hx hb d_M_areAlike_44 (by decide) ?_
          refine W.eq (congrArg (fun z => F0 m 45 ls (.int z :: [])) (show ((nI a) / 10) = (nI (a / 10)) from pk_div (d := 10) (by omega) (by decide) (by decide))) ?_
          refine lv_iload_n hx hb d_M_areAlike_45 rfl (lv_at hl 1 rfl) ?_
          refine lv_bipush (v := 10) hx hb d_M_areAlike_46 (by decide) ?_
          refine lv_idiv hx hb d_M_areAlike_48 (by decide) ?_
          refine W.eq (congrArg (fun z => F0 m 49 ls (.int z :: [.int (nI (a / 10))])) (show ((nI b) / 10) = (nI (b / 10)) from pk_div (d := 10) (by omega) (by decide) (by decide))) ?_
          refine q_icmp_ne (a := (a / 10)) (b := (b / 10)) (tgt := 54) hx hb (by omega) (by omega) d_M_areAlike_49 (by decide) (fun c7 => ?_) (fun c7 => ?_)
          · refine lv_iload_n hx hb d_M_areAlike_54 rfl (lv_at hl 0 rfl) ?_
            refine lv_bipush (v := 10) hx hb d_M_areAlike_55 (by decide) ?_
            refine lv_irem hx hb d_M_areAlike_57 (by decide) ?_
            refine W.eq (congrArg (fun z => F0 m 58 ls (.int z :: [])) (show ((nI a) - (nI a) / 10 * 10) = (nI (a % 10)) from pk_rem (d := 10) (by omega) (by decide) (by decide))) ?_
            refine lv_iload_n hx hb d_M_areAlike_58 rfl (lv_at hl 1 rfl) ?_
            refine lv_bipush (v := 10) hx hb d_M_areAlike_59 (by decide) ?_
            refine lv_idiv hx hb d_M_areAlike_61 (by decide) ?_
            refine W.eq (congrArg (fun z => F0 m 62 ls (.int z :: [.int (nI (a % 10))])) (show ((nI b) / 10) = (nI (b / 10)) from pk_div (d := 10) (by omega) (by decide) (by decide))) ?_
            refine lv_bipush (v := 10) hx hb d_M_areAlike_62 (by decide) ?_
            refine lv_irem hx hb d_M_areAlike_64 (by decide) ?_
            refine W.eq (congrArg (fun z => F0 m 65 ls (.int z :: [.int (nI (a % 10))])) (show ((nI (b / 10)) - (nI (b / 10)) / 10 * 10) = (nI ((b / 10) % 10)) from pk_rem (d := 10) (by omega) (by decide) (by decide))) ?_
            refine q_icmp_ne (a := (a % 10)) (b := ((b / 10) % 10)) (tgt := 97) hx hb (by omega) (by omega) d_M_areAlike_65 (by decide) (fun c8 => ?_) (fun c8 => ?_)
            · refine lv_iconst (v := 0) hx hb d_M_areAlike_97 (by decide) ?_
              exact hret _ _ _ (by rw [← he]; simp [alkE, bI, c1, c6, c7, c8]) d_M_areAlike_98
            · refine lv_iload_n hx hb d_M_areAlike_68 rfl (lv_at hl 0 rfl) ?_
              refine lv_bipush (v := 10) hx hb d_M_areAlike_69 (by decide) ?_
              refine lv_idiv hx hb d_M_areAlike_71 (by decide) ?_
              refine W.eq (congrArg (fun z => F0 m 72 ls (.int z :: [])) (show ((nI a) / 10) = (nI (a / 10)) from pk_div (d := 10) (by omega) (by decide) (by decide))) ?_
              refine lv_bipush (v := 10) hx hb d_M_areAlike_72 (by decide) ?_
              refine lv_irem hx hb d_M_areAlike_74 (by decide) ?_
              refine W.eq (congrArg (fun z => F0 m 75 ls (.int z :: [])) (show ((nI (a / 10)) - (nI (a / 10)) / 10 * 10) = (nI ((a / 10) % 10)) from pk_rem (d := 10) (by omega) (by decide) (by decide))) ?_
              refine lv_iload_n hx hb d_M_areAlike_75 rfl (lv_at hl 1 rfl) ?_
              refine lv_bipush (v := 10) hx hb d_M_areAlike_76 (by decide) ?_
              refine lv_irem hx hb d_M_areAlike_78 (by decide) ?_
              refine W.eq (congrArg (fun z => F0 m 79 ls (.int z :: [.int (nI ((a / 10) % 10))])) (show ((nI b) - (nI b) / 10 * 10) = (nI (b % 10)) from pk_rem (d := 10) (by omega) (by decide) (by decide))) ?_
              refine q_icmp_ne (a := ((a / 10) % 10)) (b := (b % 10)) (tgt := 97) hx hb (by omega) (by omega) d_M_areAlike_79 (by decide) (fun c9 => ?_) (fun c9 => ?_)
              · refine lv_iconst (v := 0) hx hb d_M_areAlike_97 (by decide) ?_
                exact hret _ _ _ (by rw [← he]; simp [alkE, bI, c1, c6, c7, c8, c9]) d_M_areAlike_98
              · refine lv_iload_n hx hb d_M_areAlike_82 rfl (lv_at hl 0 rfl) ?_
                refine lv_bipush (v := 100) hx hb d_M_areAlike_83 (by decide) ?_
                refine lv_idiv hx hb d_M_areAlike_85 (by decide) ?_
                refine W.eq (congrArg (fun z => F0 m 86 ls (.int z :: [])) (show ((nI a) / 100) = (nI (a / 100)) from pk_div (d := 100) (by omega) (by decide) (by decide))) ?_
                refine lv_iload_n hx hb d_M_areAlike_86 rfl (lv_at hl 1 rfl) ?_
                refine lv_bipush (v := 100) hx hb d_M_areAlike_87 (by decide) ?_
                refine lv_idiv hx hb d_M_areAlike_89 (by decide) ?_
                refine W.eq (congrArg (fun z => F0 m 90 ls (.int z :: [.int (nI (a / 100))])) (show ((nI b) / 100) = (nI (b / 100)) from pk_div (d := 100) (by omega) (by decide) (by decide))) ?_
                refine q_icmp_ne (a := (a / 100)) (b := (b / 100)) (tgt := 97) hx hb (by omega) (by omega) d_M_areAlike_90 (by decide) (fun c10 => ?_) (fun c10 => ?_)
                · refine lv_iconst (v := 0) hx hb d_M_areAlike_97 (by decide) ?_
                  exact hret _ _ _ (by rw [← he]; simp [alkE, bI, c1, c6, c7, c8, c9, c10]) d_M_areAlike_98
                · refine lv_iconst (v := 1) hx hb d_M_areAlike_93 (by decide) ?_
                  refine lv_goto (tgt := 98) hx hb d_M_areAlike_94 (by decide) ?_
                  exact hret _ _ _ (by rw [← he]; simp [alkE, bI, c1, c6, c7, c8, c9, c10]) d_M_areAlike_98
          · refine lv_iconst (v := 1) hx hb d_M_areAlike_52 (by decide) ?_
            exact hret _ _ _ (by rw [← he]; simp [alkE, bI, c1, c6, c7]) d_M_areAlike_53
        · refine lv_iload_n hx hb d_M_areAlike_25 rfl (lv_at hl 0 rfl) ?_
          refine lv_bipush (v := 10) hx hb d_M_areAlike_26 (by decide) ?_
          refine lv_idiv hx hb d_M_areAlike_28 (by decide) ?_
          refine W.eq (congrArg (fun z => F0 m 29 ls (.int z :: [])) (show ((nI a) / 10) = (nI (a / 10)) from pk_div (d := 10) (by omega) (by decide) (by decide))) ?_
          refine lv_istore_n (lv' := [(2, .int (nI (a / 10))), (3, .int (nI b)), (4, .int (nI i))]) hx hb d_M_areAlike_29 rfl hl (by decide) rfl (fun ls hl => ?_)
          refine lv_iload_n hx hb d_M_areAlike_30 rfl (lv_at hl 1 rfl) ?_
          refine lv_bipush (v := 10) hx hb d_M_areAlike_31 (by decide) ?_
          refine lv_idiv hx hb d_M_areAlike_33 (by decide) ?_
          refine W.eq (congrArg (fun z => F0 m 34 ls (.int z :: [])) (show ((nI b) / 10) = (nI (b / 10)) from pk_div (d := 10) (by omega) (by decide) (by decide))) ?_
          refine lv_istore_n (lv' := [(3, .int (nI (b / 10))), (2, .int (nI (a / 10))), (4, .int (nI i))]) hx hb d_M_areAlike_34 rfl hl (by decide) rfl (fun ls hl => ?_)
          refine lv_iinc (v := (nI (i + 1))) (lv' := [(4, .int (nI (i + 1))), (3, .int (nI (b / 10))), (2, .int (nI (a / 10)))]) hx hb d_M_areAlike_35 hl (k := 2) rfl (q_inc _) (by decide) rfl (fun ls hl => ?_)
          refine lv_goto (tgt := 7) hx hb d_M_areAlike_38 (by decide) ?_
          exact ih (i + 1) (a / 10) (b / 10) (by omega) (by omega) (by omega) (by omega) (by rw [← hf, show 8 - i = (8 - (i + 1)) + 1 by omega]; exact (if_pos c6).symm) _ (lv_sub hl [2, 1, 0] rfl)
  exact lp7 9 0 a0 b0 (by omega) (by omega) ha0 hb0 rfl _ (lv_sub hl [2, 1, 0] rfl)
end
section
set_option maxHeartbeats 4000000 in
set_option maxRecDepth 100000 in
theorem c_B_has (l : Launch) (D : va_G) (ad : Nat → Nat) (kd : Nat → ClassId) (g : Nat → Nat → Int32) (z : Nat → Int64) (v : Nat → Int32) (nb : Nat) (hnb : v 2 = nI nb) (hb6 : nb ≤ 60) (x : Int32) : RD l y_B_has (.code y_B_has b_B_has 2 (some .boolean) :: TB) ({ frames := 0, cells := 0, slots := 0, locals := 0 } : Room) [.ref (ad 1), .int x] D classes (wA ad kd g z v) (tA kd) (bI (inN nb x)) := by
  refine rd_of (by decide +kernel) (bI_nar _) (Nat.le_of_ble_eq_true rfl) ?_
  intro p e s m args below meth c Q ls hx hb hml htb hown hP hK hl hret
  have hl : lv_has ls 2 [(0, .ref (ad 1)), (1, .int x)] := hl
  refine lv_iload_n hx hb d_B_has_0 rfl (lv_at hl 1 rfl) ?_
  refine lv_if_lt (tgt := 16) hx hb d_B_has_1 (by decide) (fun c1 => ?_) (fun c1 => ?_)
  · refine lv_iconst (v := 0) hx hb d_B_has_16 (by decide) ?_
    exact hret _ _ _ (by simp [inN, bI, c1]) d_B_has_17
  · refine lv_iload_n hx hb d_B_has_4 rfl (lv_at hl 1 rfl) ?_
    refine lv_aload_n hx hb d_B_has_5 rfl (lv_at hl 0 rfl) ?_
    refine va_get (D := D) (ci := 1) (v := .int (nI nb)) (C := R_B) (T := F_B) (N := 8) hx hb htb iw_B hown hK hP 1 rfl rfl 0 (by decide) (htb _ mw_55) (fun _ h9 => h9) (congrArg (fun x => some (Value.int x)) hnb) d_B_has_6 ?_
    refine lv_icmp_ge (tgt := 16) hx hb d_B_has_9 (by decide) (fun c2 => ?_) (fun c2 => ?_)
    · refine lv_iconst (v := 0) hx hb d_B_has_16 (by decide) ?_
      exact hret _ _ _ (by simp [inN, bI, c1, c2]) d_B_has_17
    · refine lv_iconst (v := 1) hx hb d_B_has_12 (by decide) ?_
      refine lv_goto (tgt := 17) hx hb d_B_has_13 (by decide) ?_
      exact hret _ _ _ (by simp [inN, bI, c1, c2]) d_B_has_17
set_option maxHeartbeats 4000000 in
set_option maxRecDepth 100000 in
theorem c_B_isFull (l : Launch) (D : va_G) (ad : Nat → Nat) (kd : Nat → ClassId) (g : Nat → Nat → Int32) (z : Nat → Int64) (v : Nat → Int32) (nb : Nat) (hnb : v 2 = nI nb) (hb6 : nb ≤ 60) : RD l y_B_isFull (.code y_B_isFull b_B_isFull 1 (some .boolean) :: TB) ({ frames := 0, cells := 0, slots := 0, locals := 0 } : Room) [.ref (ad 1)] D classes (wA ad kd g z v) (tA kd) (bI (decide (60 ≤ nb))) := by
  refine rd_of (by decide +kernel) (bI_nar _) (Nat.le_of_ble_eq_true rfl) ?_
  intro p e s m args below meth c Q ls hx hb hml htb hown hP hK hl hret
  have hl : lv_has ls 1 [(0, .ref (ad 1))] := hl
  refine lv_aload_n hx hb d_B_isFull_0 rfl (lv_at hl 0 rfl) ?_
  refine va_get (D := D) (ci := 1) (v := .int (nI nb)) (C := R_B) (T := F_B) (N := 8) hx hb htb iw_B hown hK hP 1 rfl rfl 0 (by decide) (htb _ mw_55) (fun _ h9 => h9) (congrArg (fun x => some (Value.int x)) hnb) d_B_isFull_1 ?_
  refine lv_bipush (v := 60) hx hb d_B_isFull_4 (by decide) ?_
  refine q_icmp_lt (a := nb) (b := 60) (tgt := 13) hx hb (by omega) (by omega) d_B_isFull_6 (by decide) (fun c1 => ?_) (fun c1 => ?_)
  · refine lv_iconst (v := 0) hx hb d_B_isFull_13 (by decide) ?_
    exact hret _ _ _ (by simp [bI, c1]) d_B_isFull_14
  · refine lv_iconst (v := 1) hx hb d_B_isFull_9 (by decide) ?_
    refine lv_goto (tgt := 14) hx hb d_B_isFull_10 (by decide) ?_
    exact hret _ _ _ (by simp [bI, c1]) d_B_isFull_14
set_option maxHeartbeats 4000000 in
set_option maxRecDepth 100000 in
theorem c_B_isOrdered (l : Launch) (D : va_G) (ad : Nat → Nat) (kd : Nat → ClassId) (g : Nat → Nat → Int32) (z : Nat → Int64) (v : Nat → Int32) (k : Nat) (hk : k < 60) : RD l y_B_isOrdered (.code y_B_isOrdered b_B_isOrdered 2 (some .boolean) :: TB) ({ frames := 0, cells := 0, slots := 0, locals := 0 } : Room) [.ref (ad 1), .int (nI k)] D classes (wA ad kd g z v) (tA kd) (bI (ordB g k)) := by
  refine rd_of (by decide +kernel) (bI_nar _) (Nat.le_of_ble_eq_true rfl) ?_
  intro p e s m args below meth c Q ls hx hb hml htb hown hP hK hl hret
  have hl : lv_has ls 2 [(0, .ref (ad 1)), (1, .int (nI k))] := hl
  refine lv_aload_n hx hb d_B_isOrdered_0 rfl (lv_at hl 0 rfl) ?_
  refine va_get (D := D) (ci := 1) (v := .ref (ad 8)) (C := R_B) (T := F_B) (N := 8) hx hb htb iw_B hown hK hP 1 rfl rfl 7 (by decide) (htb _ mw_69) (fun _ h9 => h9) rfl d_B_isOrdered_1 ?_
  refine lv_iload_n hx hb d_B_isOrdered_4 rfl (lv_at hl 1 rfl) ?_
  refine q_iald hx hb hK hP 8 6 rfl rfl k (by omega) (by decide) d_B_isOrdered_5 ?_
  refine lv_if_le (tgt := 13) hx hb d_B_isOrdered_6 (by decide) (fun c1 => ?_) (fun c1 => ?_)
  · refine lv_iconst (v := 0) hx hb d_B_isOrdered_13 (by decide) ?_
    exact hret _ _ _ (by simp [ordB, bI, c1]) d_B_isOrdered_14
  · refine lv_iconst (v := 1) hx hb d_B_isOrdered_9 (by decide) ?_
    refine lv_goto (tgt := 14) hx hb d_B_isOrdered_10 (by decide) ?_
    exact hret _ _ _ (by simp [ordB, bI, c1]) d_B_isOrdered_14
set_option maxHeartbeats 4000000 in
set_option maxRecDepth 100000 in
theorem c_B_isTaken (l : Launch) (D : va_G) (ad : Nat → Nat) (kd : Nat → ClassId) (g : Nat → Nat → Int32) (z : Nat → Int64) (v : Nat → Int32) (nb : Nat) (hnb : v 2 = nI nb) (hb6 : nb ≤ 60) (x y : Int32) : RD l y_B_isTaken (.code y_B_isTaken b_B_isTaken 4 (some .boolean) :: TB) ({ frames := 0, cells := 0, slots := 0, locals := 0 } : Room) [.ref (ad 1), .int x, .int y] D classes (wA ad kd g z v) (tA kd) (bI (takB g nb x y)) := by
  refine rd_of (by decide +kernel) (bI_nar _) (Nat.le_of_ble_eq_true rfl) ?_
  intro p e s m args below meth c Q ls hx hb hml htb hown hP hK hl hret
  have hl : lv_has ls 4 [(0, .ref (ad 1)), (1, .int x), (2, .int y)] := hl
  refine lv_iconst (v := 0) hx hb d_B_isTaken_0 (by decide) ?_
  refine lv_istore_n (lv' := [(3, .int 0), (0, .ref (ad 1)), (1, .int x), (2, .int y)]) hx hb d_B_isTaken_1 rfl hl (by decide) rfl (fun ls hl => ?_)
  have lp2 : ∀ (n : Nat) (i : Nat), i ≤ nb → nb + 1 ≤ i + n → anyN (fun k => decide (g 2 k = x) && decide (g 3 k = y)) i = false → ∀ (ls : Array Slot), lv_has ls 4 [(0, .ref (ad 1)), (1, .int x), (2, .int y), (3, .int (nI i))] → W p l e ({ frames := 0, cells := 0, slots := 0, locals := 0 } : Room) s m args below meth c s.heap [] 0 0 Q (F0 m 2 ls []) := by
    intro n
    induction n with
    | zero => intro i hi hm hf ls hl; exact absurd hm (by omega)
    | succ n ih =>
      intro i hi hm hf ls hl
      refine lv_iload_n hx hb d_B_isTaken_2 rfl (lv_at hl 3 rfl) ?_
      refine lv_aload_n hx hb d_B_isTaken_3 rfl (lv_at hl 0 rfl) ?_
      refine va_get (D := D) (ci := 1) (v := .int (nI nb)) (C := R_B) (T := F_B) (N := 8) hx hb htb iw_B hown hK hP 1 rfl rfl 0 (by decide) (htb _ mw_55) (fun _ h9 => h9) (congrArg (fun x => some (Value.int x)) hnb) d_B_isTaken_4 ?_
      refine q_icmp_ge (a := i) (b := nb) (tgt := 38) hx hb (by omega) (by omega) d_B_isTaken_7 (by decide) (fun c1 => ?_) (fun c1 => ?_)
      · refine lv_iconst (v := 0) hx hb d_B_isTaken_38 (by decide) ?_
        exact hret _ _ _ (by show 0 = bI (anyN (fun k => decide (g 2 k = x) && decide (g 3 k = y)) nb); rw [show nb = i by omega, hf]; rfl) d_B_isTaken_39
      · refine lv_aload_n hx hb d_B_isTaken_10 rfl (lv_at hl 0 rfl) ?_
        refine va_get (D := D) (ci := 1) (v := .ref (ad 2)) (C := R_B) (T := F_B) (N := 8) hx hb htb iw_B hown hK hP 1 rfl rfl 1 (by decide) (htb _ mw_57) (fun _ h9 => h9) rfl d_B_isTaken_11 ?_
        refine lv_iload_n hx hb d_B_isTaken_14 rfl (lv_at hl 3 rfl) ?_
        refine q_iald hx hb hK hP 2 0 rfl rfl i (by omega) (by decide) d_B_isTaken_15 ?_
        refine lv_iload_n hx hb d_B_isTaken_16 rfl (lv_at hl 1 rfl) ?_
        refine lv_icmp_ne (tgt := 32) hx hb d_B_isTaken_17 (by decide) (fun c2 => ?_) (fun c2 => ?_)
        · refine lv_iinc (v := (nI (i + 1))) (lv' := [(3, .int (nI (i + 1))), (0, .ref (ad 1)), (1, .int x), (2, .int y)]) hx hb d_B_isTaken_32 hl (k := 3) rfl (q_inc _) (by decide) rfl (fun ls hl => ?_)
          refine lv_goto (tgt := 2) hx hb d_B_isTaken_35 (by decide) ?_
          exact ih (i + 1) (by omega) (by omega) (by simp [anyN, hf, c1, c2]) _ (lv_sub hl [1, 2, 3, 0] rfl)
        · refine lv_aload_n hx hb d_B_isTaken_20 rfl (lv_at hl 0 rfl) ?_
          refine va_get (D := D) (ci := 1) (v := .ref (ad 3)) (C := R_B) (T := F_B) (N := 8) hx hb htb iw_B hown hK hP 1 rfl rfl 2 (by decide) (htb _ mw_59) (fun _ h9 => h9) rfl d_B_isTaken_21 ?_
          refine lv_iload_n hx hb d_B_isTaken_24 rfl (lv_at hl 3 rfl) ?_
          refine q_iald hx hb hK hP 3 1 rfl rfl i (by omega) (by decide) d_B_isTaken_25 ?_
          refine lv_iload_n hx hb d_B_isTaken_26 rfl (lv_at hl 2 rfl) ?_
          refine lv_icmp_ne (tgt := 32) hx hb d_B_isTaken_27 (by decide) (fun c3 => ?_) (fun c3 => ?_)
          · refine lv_iinc (v := (nI (i + 1))) (lv' := [(3, .int (nI (i + 1))), (0, .ref (ad 1)), (1, .int x), (2, .int y)]) hx hb d_B_isTaken_32 hl (k := 3) rfl (q_inc _) (by decide) rfl (fun ls hl => ?_)
            refine lv_goto (tgt := 2) hx hb d_B_isTaken_35 (by decide) ?_
            exact ih (i + 1) (by omega) (by omega) (by simp [anyN, hf, c1, c2, c3]) _ (lv_sub hl [1, 2, 3, 0] rfl)
          · refine lv_iconst (v := 1) hx hb d_B_isTaken_30 (by decide) ?_
            exact hret _ _ _ (by show 1 = bI (anyN (fun k => decide (g 2 k = x) && decide (g 3 k = y)) nb); rw [anyN_hit (i := i) (by simp [c1, c2, c3]) (by omega)]; rfl) d_B_isTaken_31
  exact lp2 (nb + 1) 0 (Nat.zero_le _) (by omega) rfl _ (lv_sub hl [1, 2, 3, 0] rfl)
set_option maxHeartbeats 4000000 in
set_option maxRecDepth 100000 in
theorem c_B_mayStandUnder (l : Launch) (D : va_G) (ad : Nat → Nat) (kd : Nat → ClassId) (g : Nat → Nat → Int32) (z : Nat → Int64) (v : Nat → Int32) (nb : Nat) (hnb : v 2 = nI nb) (hb6 : nb ≤ 60) (x o : Int32) : RD l y_B_mayStandUnder (.code y_B_mayStandUnder b_B_mayStandUnder 3 (some .boolean) :: TB) ({ frames := 1, cells := 0, slots := 0, locals := 21 } : Room) [.ref (ad 1), .int x, .int o] D classes (wA ad kd g z v) (tA kd) (bI (msu g nb x o)) := by
  refine rd_of (by decide +kernel) (bI_nar _) (Nat.le_of_ble_eq_true rfl) ?_
  intro p e s m args below meth c Q ls hx hb hml htb hown hP hK hl hret
  have hl : lv_has ls 3 [(0, .ref (ad 1)), (1, .int x), (2, .int o)] := hl
  refine lv_iload_n hx hb d_B_mayStandUnder_0 rfl (lv_at hl 2 rfl) ?_
  refine lv_iconst (v := (-1)) hx hb d_B_mayStandUnder_1 (by decide) ?_
  refine lv_icmp_ne (tgt := 7) hx hb d_B_mayStandUnder_2 (by decide) (fun c1 => ?_) (fun c1 => ?_)
  · refine lv_aload_n hx hb d_B_mayStandUnder_7 rfl (lv_at hl 0 rfl) ?_
    refine lv_iload_n hx hb d_B_mayStandUnder_8 rfl (lv_at hl 2 rfl) ?_
    refine rdV (As := [.int o]) (rest := []) (b := ad 1) ⟨hx, hb, hml, hown, htb⟩ (c_B_has l D ad kd g z v nb hnb hb6 o) (cwV (C := R_B) 1 htb (gV tb_good mw_388 mw_186 mw_187 mw_28 mw_188) rfl rfl rfl (by decide +kernel) ⟨Nat.le_of_ble_eq_true rfl, Nat.le_of_ble_eq_true rfl⟩) hP hK (va_recv hK hP (ci := 1) (q0 := 1) rfl rfl) rfl hl.1 rfl (lv_room (Nat.le_of_ble_eq_true rfl)) d_B_mayStandUnder_9 ⟨Nat.zero_le _, Nat.zero_le _⟩ ?_
    refine lv_if_eq (tgt := 47) hx hb d_B_mayStandUnder_12 (by decide) (fun c2 => ?_) (fun c2 => ?_)
    · replace c2 := bI_f c2
      refine lv_iconst (v := 0) hx hb d_B_mayStandUnder_47 (by decide) ?_
      exact hret _ _ _ (by simp [msu, bI, c1, c2]) d_B_mayStandUnder_48
    · replace c2 := bI_t c2
      obtain ⟨k, hk, rfl⟩ := inN_ix c2 (by omega)
      have ek : ix (nI k) = k := ix_nI (by omega)
      have mk : ¬ nI k = -1 := nI_nm1 (by omega)
      refine lv_aload_n hx hb d_B_mayStandUnder_15 rfl (lv_at hl 0 rfl) ?_
      refine va_get (D := D) (ci := 1) (v := .ref (ad 2)) (C := R_B) (T := F_B) (N := 8) hx hb htb iw_B hown hK hP 1 rfl rfl 1 (by decide) (htb _ mw_57) (fun _ h9 => h9) rfl d_B_mayStandUnder_16 ?_
      refine lv_iload_n hx hb d_B_mayStandUnder_19 rfl (lv_at hl 2 rfl) ?_
      refine q_iald hx hb hK hP 2 0 rfl rfl k (by omega) (by decide) d_B_mayStandUnder_20 ?_
      refine lv_iload_n hx hb d_B_mayStandUnder_21 rfl (lv_at hl 1 rfl) ?_
      refine lv_icmp_ne (tgt := 47) hx hb d_B_mayStandUnder_22 (by decide) (fun c3 => ?_) (fun c3 => ?_)
      · refine lv_iconst (v := 0) hx hb d_B_mayStandUnder_47 (by decide) ?_
        exact hret _ _ _ (by simp [msu, bI, c1, c2, ek, mk, c3]) d_B_mayStandUnder_48
      · refine lv_aload_n hx hb d_B_mayStandUnder_25 rfl (lv_at hl 0 rfl) ?_
        refine va_get (D := D) (ci := 1) (v := .ref (ad 5)) (C := R_B) (T := F_B) (N := 8) hx hb htb iw_B hown hK hP 1 rfl rfl 4 (by decide) (htb _ mw_63) (fun _ h9 => h9) rfl d_B_mayStandUnder_26 ?_
        refine lv_iload_n hx hb d_B_mayStandUnder_29 rfl (lv_at hl 2 rfl) ?_
        refine q_iald hx hb hK hP 5 3 rfl rfl k (by omega) (by decide) d_B_mayStandUnder_30 ?_
        refine lv_iconst (v := 4) hx hb d_B_mayStandUnder_31 (by decide) ?_
        refine lv_icmp_ge (tgt := 47) hx hb d_B_mayStandUnder_32 (by decide) (fun c4 => ?_) (fun c4 => ?_)
        · refine lv_iconst (v := 0) hx hb d_B_mayStandUnder_47 (by decide) ?_
          exact hret _ _ _ (by simp [msu, bI, c1, c2, ek, mk, c3, c4]) d_B_mayStandUnder_48
        · refine lv_aload_n hx hb d_B_mayStandUnder_35 rfl (lv_at hl 0 rfl) ?_
          refine lv_iload_n hx hb d_B_mayStandUnder_36 rfl (lv_at hl 2 rfl) ?_
          refine rdV (As := [.int (nI k)]) (rest := []) (b := ad 1) ⟨hx, hb, hml, hown, htb⟩ (c_B_isOrdered l D ad kd g z v k (by omega)) (cwV (C := R_B) 1 htb (gV tb_good mw_389 mw_390 mw_391 mw_28 mw_392) rfl rfl rfl (by decide +kernel) ⟨Nat.le_of_ble_eq_true rfl, Nat.le_of_ble_eq_true rfl⟩) hP hK (va_recv hK hP (ci := 1) (q0 := 1) rfl rfl) rfl hl.1 rfl (lv_room (Nat.le_of_ble_eq_true rfl)) d_B_mayStandUnder_37 ⟨Nat.zero_le _, Nat.zero_le _⟩ ?_
          refine lv_if_ne (tgt := 47) hx hb d_B_mayStandUnder_40 (by decide) (fun c5 => ?_) (fun c5 => ?_)
          · replace c5 := bI_t c5
            refine lv_iconst (v := 0) hx hb d_B_mayStandUnder_47 (by decide) ?_
            exact hret _ _ _ (by simp [msu, bI, c1, c2, ek, mk, c3, c4, c5]) d_B_mayStandUnder_48
          · replace c5 := bI_f c5
            refine lv_iconst (v := 1) hx hb d_B_mayStandUnder_43 (by decide) ?_
            refine lv_goto (tgt := 48) hx hb d_B_mayStandUnder_44 (by decide) ?_
            exact hret _ _ _ (by simp [msu, bI, c1, c2, ek, mk, c3, c4, c5]) d_B_mayStandUnder_48
  · refine lv_iconst (v := 1) hx hb d_B_mayStandUnder_5 (by decide) ?_
    exact hret _ _ _ (by simp [msu, bI, c1]) d_B_mayStandUnder_6
set_option maxHeartbeats 4000000 in
set_option maxRecDepth 100000 in
theorem c_B_under (l : Launch) (D : va_G) (ad : Nat → Nat) (kd : Nat → ClassId) (g : Nat → Nat → Int32) (z : Nat → Int64) (v : Nat → Int32) (nb : Nat) (hnb : v 2 = nI nb) (hb6 : nb ≤ 60) (x : Int32) : RD l y_B_under (.code y_B_under b_B_under 4 (some .int) :: TB) ({ frames := 0, cells := 0, slots := 0, locals := 0 } : Room) [.ref (ad 1), .int x] D classes (wA ad kd g z v) (tA kd) (nI (undB g nb x)) := by
  refine rd_of (by decide +kernel) (rfl) (Nat.le_of_ble_eq_true rfl) ?_
  intro p e s m args below meth c Q ls hx hb hml htb hown hP hK hl hret
  have hl : lv_has ls 4 [(0, .ref (ad 1)), (1, .int x)] := hl
  refine lv_iconst (v := 0) hx hb d_B_under_0 (by decide) ?_
  refine lv_istore_n (lv' := [(2, .int 0), (0, .ref (ad 1)), (1, .int x)]) hx hb d_B_under_1 rfl hl (by decide) rfl (fun ls hl => ?_)
  refine lv_iconst (v := 0) hx hb d_B_under_2 (by decide) ?_
  refine lv_istore_n (lv' := [(3, .int 0), (2, .int 0), (0, .ref (ad 1)), (1, .int x)]) hx hb d_B_under_3 rfl hl (by decide) rfl (fun ls hl => ?_)
  have lp4 : ∀ (n : Nat) (i : Nat) (f : Nat), i ≤ nb → nb + 1 ≤ i + n → f = cntN (fun k => decide (g 4 k = x)) i → ∀ (ls : Array Slot), lv_has ls 4 [(0, .ref (ad 1)), (1, .int x), (2, .int (nI f)), (3, .int (nI i))] → W p l e ({ frames := 0, cells := 0, slots := 0, locals := 0 } : Room) s m args below meth c s.heap [] 0 0 Q (F0 m 4 ls []) := by
    intro n
    induction n with
    | zero => intro i f hi hm hf ls hl; exact absurd hm (by omega)
    | succ n ih =>
      intro i f hi hm hf ls hl
      refine lv_iload_n hx hb d_B_under_4 rfl (lv_at hl 3 rfl) ?_
      refine lv_aload_n hx hb d_B_under_5 rfl (lv_at hl 0 rfl) ?_
      refine va_get (D := D) (ci := 1) (v := .int (nI nb)) (C := R_B) (T := F_B) (N := 8) hx hb htb iw_B hown hK hP 1 rfl rfl 0 (by decide) (htb _ mw_55) (fun _ h9 => h9) (congrArg (fun x => some (Value.int x)) hnb) d_B_under_6 ?_
      refine q_icmp_ge (a := i) (b := nb) (tgt := 31) hx hb (by omega) (by omega) d_B_under_9 (by decide) (fun c1 => ?_) (fun c1 => ?_)
      · refine lv_iload_n hx hb d_B_under_31 rfl (lv_at hl 2 rfl) ?_
        exact hret _ _ _ (by show nI f = nI (cntN _ nb); rw [show nb = i by omega, hf]) d_B_under_32
      · refine lv_aload_n hx hb d_B_under_12 rfl (lv_at hl 0 rfl) ?_
        refine va_get (D := D) (ci := 1) (v := .ref (ad 4)) (C := R_B) (T := F_B) (N := 8) hx hb htb iw_B hown hK hP 1 rfl rfl 3 (by decide) (htb _ mw_61) (fun _ h9 => h9) rfl d_B_under_13 ?_
        refine lv_iload_n hx hb d_B_under_16 rfl (lv_at hl 3 rfl) ?_
        refine q_iald hx hb hK hP 4 2 rfl rfl i (by omega) (by decide) d_B_under_17 ?_
        refine lv_iload_n hx hb d_B_under_18 rfl (lv_at hl 1 rfl) ?_
        refine lv_icmp_ne (tgt := 25) hx hb d_B_under_19 (by decide) (fun c2 => ?_) (fun c2 => ?_)
        · refine lv_iinc (v := (nI (i + 1))) (lv' := [(3, .int (nI (i + 1))), (0, .ref (ad 1)), (1, .int x), (2, .int (nI f))]) hx hb d_B_under_25 hl (k := 3) rfl (q_inc _) (by decide) rfl (fun ls hl => ?_)
          refine lv_goto (tgt := 4) hx hb d_B_under_28 (by decide) ?_
          exact ih (i + 1) f (by omega) (by omega) (by rw [cntN_f (by simp [c1, c2]), hf]) _ (lv_sub hl [1, 2, 3, 0] rfl)
        · refine lv_iinc (v := (nI (f + 1))) (lv' := [(2, .int (nI (f + 1))), (0, .ref (ad 1)), (1, .int x), (3, .int (nI i))]) hx hb d_B_under_22 hl (k := 2) rfl (q_inc _) (by decide) rfl (fun ls hl => ?_)
          refine lv_iinc (v := (nI (i + 1))) (lv' := [(3, .int (nI (i + 1))), (2, .int (nI (f + 1))), (0, .ref (ad 1)), (1, .int x)]) hx hb d_B_under_25 hl (k := 3) rfl (q_inc _) (by decide) rfl (fun ls hl => ?_)
          refine lv_goto (tgt := 4) hx hb d_B_under_28 (by decide) ?_
          exact ih (i + 1) (f + 1) (by omega) (by omega) (by rw [cntN_t (by simp [c1, c2]), hf]) _ (lv_sub hl [2, 3, 1, 0] rfl)
  exact lp4 (nb + 1) 0 0 (Nat.zero_le _) (by omega) rfl _ (lv_sub hl [2, 3, 1, 0] rfl)
set_option maxHeartbeats 4000000 in
set_option maxRecDepth 100000 in
theorem c_B_add (l : Launch) (D : va_G) (ad : Nat → Nat) (kd : Nat → ClassId) (g : Nat → Nat → Int32) (z : Nat → Int64) (v : Nat → Int32) (nb : Nat) (hnb : v 2 = nI nb) (hb6 : nb ≤ 60) (hlt : nb < 60) (a1 a2 a3 a4 : Int32) : WRi l y_B_add (.code y_B_add b_B_add 6 (some .int) :: TB) ({ frames := 1, cells := 0, slots := 0, locals := 21 } : Room) [.ref (ad 1), .int a1, .int a2, .int a3, .int a4] D classes (wA ad kd g z v) (wA ad kd (addB g nb a1 a2 a3 a4) z (upd v 2 (nI nb + 1))) (tA kd) (nI nb) := by
  refine wr_of (by decide +kernel) (rfl) (Nat.le_of_ble_eq_true rfl) ?_
  intro p e s m args below meth c Q ls A hx hb hml htb hown hP hK hD hS hA hl hret
  have hl : lv_has ls 6 [(0, .ref (ad 1)), (1, .int a1), (2, .int a2), (3, .int a3), (4, .int a4)] := hl
  refine lv_aload_n hx hb d_B_add_0 rfl (lv_at hl 0 rfl) ?_
  refine va_get (D := D) (ci := 1) (v := .int (nI nb)) (C := R_B) (T := F_B) (N := 8) hx hb htb iw_B hown hK hP 1 rfl rfl 0 (by decide) (htb _ mw_55) (fun _ h9 => h9) (congrArg (fun x => some (Value.int x)) hnb) d_B_add_1 ?_
  refine lv_istore (lv' := [(5, .int (nI nb)), (0, .ref (ad 1)), (1, .int a1), (2, .int a2), (3, .int a3), (4, .int a4)]) hx hb d_B_add_4 hl (by decide) rfl (fun ls hl => ?_)
  refine lv_aload_n hx hb d_B_add_6 rfl (lv_at hl 1 rfl) ?_
  refine va_get (D := D) (ci := 1) (v := .ref (ad 2)) (C := R_B) (T := F_B) (N := 8) hx hb htb iw_B hown hK hP 1 rfl rfl 1 (by decide) (htb _ mw_57) (fun _ h9 => h9) rfl d_B_add_7 ?_
  refine lv_iload hx hb d_B_add_10 (lv_at hl 0 rfl) ?_
  refine lv_iload_n hx hb d_B_add_12 rfl (lv_at hl 2 rfl) ?_
  refine q_iast hx hb hK hP hD hS 2 0 rfl rfl nb (x := a1) (by omega) (by decide) d_B_add_13 (fun H locs hP hD hS => ?_)
  have hP : va_P D classes (wA ad kd (up g 2 nb a1) z v) H := hP
  have hD : va_D A (wA ad kd (up g 2 nb a1) z v) := hD
  refine lv_aload_n hx hb d_B_add_14 rfl (lv_at hl 1 rfl) ?_
  refine va_get (D := D) (ci := 1) (v := .ref (ad 3)) (C := R_B) (T := F_B) (N := 8) hx hb htb iw_B hown hK hP 1 rfl rfl 2 (by decide) (htb _ mw_59) (fun _ h9 => h9) rfl d_B_add_15 ?_
  refine lv_iload hx hb d_B_add_18 (lv_at hl 0 rfl) ?_
  refine lv_iload_n hx hb d_B_add_20 rfl (lv_at hl 3 rfl) ?_
  refine q_iast hx hb hK hP hD hS 3 1 rfl rfl nb (x := a2) (by omega) (by decide) d_B_add_21 (fun H locs hP hD hS => ?_)
  have hP : va_P D classes (wA ad kd (up (up g 2 nb a1) 3 nb a2) z v) H := hP
  have hD : va_D A (wA ad kd (up (up g 2 nb a1) 3 nb a2) z v) := hD
  refine lv_aload_n hx hb d_B_add_22 rfl (lv_at hl 1 rfl) ?_
  refine va_get (D := D) (ci := 1) (v := .ref (ad 4)) (C := R_B) (T := F_B) (N := 8) hx hb htb iw_B hown hK hP 1 rfl rfl 3 (by decide) (htb _ mw_61) (fun _ h9 => h9) rfl d_B_add_23 ?_
  refine lv_iload hx hb d_B_add_26 (lv_at hl 0 rfl) ?_
  refine lv_iload_n hx hb d_B_add_28 rfl (lv_at hl 4 rfl) ?_
  refine q_iast hx hb hK hP hD hS 4 2 rfl rfl nb (x := a3) (by omega) (by decide) d_B_add_29 (fun H locs hP hD hS => ?_)
  have hP : va_P D classes (wA ad kd (up (up (up g 2 nb a1) 3 nb a2) 4 nb a3) z v) H := hP
  have hD : va_D A (wA ad kd (up (up (up g 2 nb a1) 3 nb a2) 4 nb a3) z v) := hD
  refine lv_aload_n hx hb d_B_add_30 rfl (lv_at hl 1 rfl) ?_
  refine va_get (D := D) (ci := 1) (v := .ref (ad 5)) (C := R_B) (T := F_B) (N := 8) hx hb htb iw_B hown hK hP 1 rfl rfl 4 (by decide) (htb _ mw_63) (fun _ h9 => h9) rfl d_B_add_31 ?_
  refine lv_iload hx hb d_B_add_34 (lv_at hl 0 rfl) ?_
  refine lv_aload_n hx hb d_B_add_36 rfl (lv_at hl 1 rfl) ?_
  refine lv_iload_n hx hb d_B_add_37 rfl (lv_at hl 4 rfl) ?_
  refine rdV (As := [.int a3]) (rest := [.int (nI nb), .ref (ad 5)]) (b := ad 1) ⟨hx, hb, hml, hown, htb⟩ (c_B_has l D ad kd (up (up (up g 2 nb a1) 3 nb a2) 4 nb a3) z v nb hnb hb6 a3) (cwV (C := R_B) 1 htb (gV tb_good mw_388 mw_186 mw_187 mw_28 mw_188) rfl rfl rfl (by decide +kernel) ⟨Nat.le_of_ble_eq_true rfl, Nat.le_of_ble_eq_true rfl⟩) hP hK (va_recv hK hP (ci := 1) (q0 := 1) rfl rfl) rfl hl.1 rfl (lv_room (Nat.le_of_ble_eq_true rfl)) d_B_add_38 ⟨Nat.zero_le _, Nat.zero_le _⟩ ?_
  refine lv_if_eq (tgt := 55) hx hb d_B_add_41 (by decide) (fun c1 => ?_) (fun c1 => ?_)
  · replace c1 := bI_f c1
    refine lv_iconst (v := 1) hx hb d_B_add_55 (by decide) ?_
    refine q_iast hx hb hK hP hD hS 5 3 rfl rfl nb (x := 1) (by omega) (by decide) d_B_add_56 (fun H locs hP hD hS => ?_)
    have hP : va_P D classes (wA ad kd (up (up (up (up g 2 nb a1) 3 nb a2) 4 nb a3) 5 nb 1) z v) H := hP
    have hD : va_D A (wA ad kd (up (up (up (up g 2 nb a1) 3 nb a2) 4 nb a3) 5 nb 1) z v) := hD
    refine lv_aload_n hx hb d_B_add_57 rfl (lv_at hl 1 rfl) ?_
    refine va_get (D := D) (ci := 1) (v := .ref (ad 6)) (C := R_B) (T := F_B) (N := 8) hx hb htb iw_B hown hK hP 1 rfl rfl 5 (by decide) (htb _ mw_65) (fun _ h9 => h9) rfl d_B_add_58 ?_
    refine lv_iload hx hb d_B_add_61 (lv_at hl 0 rfl) ?_
    refine lv_aload_n hx hb d_B_add_63 rfl (lv_at hl 1 rfl) ?_
    refine lv_iload_n hx hb d_B_add_64 rfl (lv_at hl 4 rfl) ?_
    refine rdV (As := [.int a3]) (rest := [.int (nI nb), .ref (ad 6)]) (b := ad 1) ⟨hx, hb, hml, hown, htb⟩ (c_B_has l D ad kd (up (up (up (up g 2 nb a1) 3 nb a2) 4 nb a3) 5 nb 1) z v nb hnb hb6 a3) (cwV (C := R_B) 1 htb (gV tb_good mw_388 mw_186 mw_187 mw_28 mw_188) rfl rfl rfl (by decide +kernel) ⟨Nat.le_of_ble_eq_true rfl, Nat.le_of_ble_eq_true rfl⟩) hP hK (va_recv hK hP (ci := 1) (q0 := 1) rfl rfl) rfl hl.1 rfl (lv_room (Nat.le_of_ble_eq_true rfl)) d_B_add_65 ⟨Nat.zero_le _, Nat.zero_le _⟩ ?_
    refine lv_if_eq (tgt := 80) hx hb d_B_add_68 (by decide) (fun c2 => ?_) (fun c2 => ?_)
    · replace c2 := bI_f c2
      refine lv_iload hx hb d_B_add_80 (lv_at hl 0 rfl) ?_
      refine q_iast hx hb hK hP hD hS 6 4 rfl rfl nb (x := (nI nb)) (by omega) (by decide) d_B_add_82 (fun H locs hP hD hS => ?_)
      have hP : va_P D classes (wA ad kd (up (up (up (up (up g 2 nb a1) 3 nb a2) 4 nb a3) 5 nb 1) 6 nb (nI nb)) z v) H := hP
      have hD : va_D A (wA ad kd (up (up (up (up (up g 2 nb a1) 3 nb a2) 4 nb a3) 5 nb 1) 6 nb (nI nb)) z v) := hD
      refine lv_aload_n hx hb d_B_add_83 rfl (lv_at hl 1 rfl) ?_
      refine va_get (D := D) (ci := 1) (v := .ref (ad 7)) (C := R_B) (T := F_B) (N := 8) hx hb htb iw_B hown hK hP 1 rfl rfl 6 (by decide) (htb _ mw_67) (fun _ h9 => h9) rfl d_B_add_84 ?_
      refine lv_iload hx hb d_B_add_87 (lv_at hl 0 rfl) ?_
      refine lv_iload hx hb d_B_add_89 (lv_at hl 5 rfl) ?_
      refine q_iast hx hb hK hP hD hS 7 5 rfl rfl nb (x := a4) (by omega) (by decide) d_B_add_91 (fun H locs hP hD hS => ?_)
      have hP : va_P D classes (wA ad kd (up (up (up (up (up (up g 2 nb a1) 3 nb a2) 4 nb a3) 5 nb 1) 6 nb (nI nb)) 7 nb a4) z v) H := hP
      have hD : va_D A (wA ad kd (up (up (up (up (up (up g 2 nb a1) 3 nb a2) 4 nb a3) 5 nb 1) 6 nb (nI nb)) 7 nb a4) z v) := hD
      refine lv_aload_n hx hb d_B_add_92 rfl (lv_at hl 1 rfl) ?_
      refine va_get (D := D) (ci := 1) (v := .ref (ad 8)) (C := R_B) (T := F_B) (N := 8) hx hb htb iw_B hown hK hP 1 rfl rfl 7 (by decide) (htb _ mw_69) (fun _ h9 => h9) rfl d_B_add_93 ?_
      refine lv_iload hx hb d_B_add_96 (lv_at hl 0 rfl) ?_
      refine lv_iconst (v := 0) hx hb d_B_add_98 (by decide) ?_
      refine q_iast hx hb hK hP hD hS 8 6 rfl rfl nb (x := 0) (by omega) (by decide) d_B_add_99 (fun H locs hP hD hS => ?_)
      have hP : va_P D classes (wA ad kd (up (up (up (up (up (up (up g 2 nb a1) 3 nb a2) 4 nb a3) 5 nb 1) 6 nb (nI nb)) 7 nb a4) 8 nb 0) z v) H := hP
      have hD : va_D A (wA ad kd (up (up (up (up (up (up (up g 2 nb a1) 3 nb a2) 4 nb a3) 5 nb 1) 6 nb (nI nb)) 7 nb a4) 8 nb 0) z v) := hD
      refine lv_aload_n hx hb d_B_add_100 rfl (lv_at hl 1 rfl) ?_
      refine lv_dup hx hb d_B_add_101 rfl ?_
      refine va_get (D := D) (ci := 1) (v := .int (nI nb)) (C := R_B) (T := F_B) (N := 8) hx hb htb iw_B hown hK hP 1 rfl rfl 0 (by decide) (htb _ mw_55) (fun _ h9 => h9) (congrArg (fun x => some (Value.int x)) hnb) d_B_add_102 ?_
      refine lv_iconst (v := 1) hx hb d_B_add_105 (by decide) ?_
      refine lv_iadd hx hb d_B_add_106 ?_
      refine va_put (D := D) (ci := 1) (v := .int ((nI nb) + 1)) (ty := .int) (C := R_B) (T := F_B) (N := 8) hx hb htb iw_B t_B t_B_ok n_B hown hK hP hD hS 1 rfl rfl 0 (by decide) (htb _ mw_55) (fun _ h9 => h9) rfl (by decide +kernel) rfl rfl (Nat.le_of_ble_eq_true rfl) d_B_add_107 (fun H locs hP hD hS => ?_)
      have hP : va_P D classes (wA ad kd (up (up (up (up (up (up (up g 2 nb a1) 3 nb a2) 4 nb a3) 5 nb 1) 6 nb (nI nb)) 7 nb a4) 8 nb 0) z (upd v 2 ((nI nb) + 1))) H := hP
      have hD : va_D A (wA ad kd (up (up (up (up (up (up (up g 2 nb a1) 3 nb a2) 4 nb a3) 5 nb 1) 6 nb (nI nb)) 7 nb a4) 8 nb 0) z (upd v 2 ((nI nb) + 1))) := hD
      refine lv_iload hx hb d_B_add_110 (lv_at hl 0 rfl) ?_
      exact hret _ _ _ _ _ rfl (by simp only [addB, c1, if_true, Bool.false_eq_true, if_false]; exact hP) hS d_B_add_112
    · replace c2 := bI_t c2
      rw [c1] at c2; exact absurd c2 (by decide)
  · replace c1 := bI_t c1
    obtain ⟨k, hk, rfl⟩ := inN_ix c1 (by omega)
    have ek : ix (nI k) = k := ix_nI (by omega)
    have mk : ¬ nI k = -1 := nI_nm1 (by omega)
    refine lv_aload_n hx hb d_B_add_44 rfl (lv_at hl 1 rfl) ?_
    refine va_get (D := D) (ci := 1) (v := .ref (ad 5)) (C := R_B) (T := F_B) (N := 8) hx hb htb iw_B hown hK hP 1 rfl rfl 4 (by decide) (htb _ mw_63) (fun _ h9 => h9) rfl d_B_add_45 ?_
    refine lv_iload_n hx hb d_B_add_48 rfl (lv_at hl 4 rfl) ?_
    refine q_iald hx hb hK hP 5 3 rfl rfl k (by omega) (by decide) d_B_add_49 ?_
    refine lv_iconst (v := 1) hx hb d_B_add_50 (by decide) ?_
    refine lv_iadd hx hb d_B_add_51 ?_
    refine lv_goto (tgt := 56) hx hb d_B_add_52 (by decide) ?_
    refine q_iast hx hb hK hP hD hS 5 3 rfl rfl nb (x := ((g 5 k) + 1)) (by omega) (by decide) d_B_add_56 (fun H locs hP hD hS => ?_)
    have hP : va_P D classes (wA ad kd (up (up (up (up g 2 nb a1) 3 nb a2) 4 nb (nI k)) 5 nb ((g 5 k) + 1)) z v) H := hP
    have hD : va_D A (wA ad kd (up (up (up (up g 2 nb a1) 3 nb a2) 4 nb (nI k)) 5 nb ((g 5 k) + 1)) z v) := hD
    refine lv_aload_n hx hb d_B_add_57 rfl (lv_at hl 1 rfl) ?_
    refine va_get (D := D) (ci := 1) (v := .ref (ad 6)) (C := R_B) (T := F_B) (N := 8) hx hb htb iw_B hown hK hP 1 rfl rfl 5 (by decide) (htb _ mw_65) (fun _ h9 => h9) rfl d_B_add_58 ?_
    refine lv_iload hx hb d_B_add_61 (lv_at hl 0 rfl) ?_
    refine lv_aload_n hx hb d_B_add_63 rfl (lv_at hl 1 rfl) ?_
    refine lv_iload_n hx hb d_B_add_64 rfl (lv_at hl 4 rfl) ?_
    refine rdV (As := [.int (nI k)]) (rest := [.int (nI nb), .ref (ad 6)]) (b := ad 1) ⟨hx, hb, hml, hown, htb⟩ (c_B_has l D ad kd (up (up (up (up g 2 nb a1) 3 nb a2) 4 nb (nI k)) 5 nb ((g 5 k) + 1)) z v nb hnb hb6 (nI k)) (cwV (C := R_B) 1 htb (gV tb_good mw_388 mw_186 mw_187 mw_28 mw_188) rfl rfl rfl (by decide +kernel) ⟨Nat.le_of_ble_eq_true rfl, Nat.le_of_ble_eq_true rfl⟩) hP hK (va_recv hK hP (ci := 1) (q0 := 1) rfl rfl) rfl hl.1 rfl (lv_room (Nat.le_of_ble_eq_true rfl)) d_B_add_65 ⟨Nat.zero_le _, Nat.zero_le _⟩ ?_
    refine lv_if_eq (tgt := 80) hx hb d_B_add_68 (by decide) (fun c3 => ?_) (fun c3 => ?_)
    · replace c3 := bI_f c3
      rw [c1] at c3; exact absurd c3 (by decide)
    · replace c3 := bI_t c3
      refine lv_aload_n hx hb d_B_add_71 rfl (lv_at hl 1 rfl) ?_
      refine va_get (D := D) (ci := 1) (v := .ref (ad 6)) (C := R_B) (T := F_B) (N := 8) hx hb htb iw_B hown hK hP 1 rfl rfl 5 (by decide) (htb _ mw_65) (fun _ h9 => h9) rfl d_B_add_72 ?_
      refine lv_iload_n hx hb d_B_add_75 rfl (lv_at hl 4 rfl) ?_
      refine q_iald hx hb hK hP 6 4 rfl rfl k (by omega) (by decide) d_B_add_76 ?_
      refine lv_goto (tgt := 82) hx hb d_B_add_77 (by decide) ?_
      refine q_iast hx hb hK hP hD hS 6 4 rfl rfl nb (x := (g 6 k)) (by omega) (by decide) d_B_add_82 (fun H locs hP hD hS => ?_)
      have hP : va_P D classes (wA ad kd (up (up (up (up (up g 2 nb a1) 3 nb a2) 4 nb (nI k)) 5 nb ((g 5 k) + 1)) 6 nb (g 6 k)) z v) H := hP
      have hD : va_D A (wA ad kd (up (up (up (up (up g 2 nb a1) 3 nb a2) 4 nb (nI k)) 5 nb ((g 5 k) + 1)) 6 nb (g 6 k)) z v) := hD
      refine lv_aload_n hx hb d_B_add_83 rfl (lv_at hl 1 rfl) ?_
      refine va_get (D := D) (ci := 1) (v := .ref (ad 7)) (C := R_B) (T := F_B) (N := 8) hx hb htb iw_B hown hK hP 1 rfl rfl 6 (by decide) (htb _ mw_67) (fun _ h9 => h9) rfl d_B_add_84 ?_
      refine lv_iload hx hb d_B_add_87 (lv_at hl 0 rfl) ?_
      refine lv_iload hx hb d_B_add_89 (lv_at hl 5 rfl) ?_
      refine q_iast hx hb hK hP hD hS 7 5 rfl rfl nb (x := a4) (by omega) (by decide) d_B_add_91 (fun H locs hP hD hS => ?_)
      have hP : va_P D classes (wA ad kd (up (up (up (up (up (up g 2 nb a1) 3 nb a2) 4 nb (nI k)) 5 nb ((g 5 k) + 1)) 6 nb (g 6 k)) 7 nb a4) z v) H := hP
      have hD : va_D A (wA ad kd (up (up (up (up (up (up g 2 nb a1) 3 nb a2) 4 nb (nI k)) 5 nb ((g 5 k) + 1)) 6 nb (g 6 k)) 7 nb a4) z v) := hD
      refine lv_aload_n hx hb d_B_add_92 rfl (lv_at hl 1 rfl) ?_
      refine va_get (D := D) (ci := 1) (v := .ref (ad 8)) (C := R_B) (T := F_B) (N := 8) hx hb htb iw_B hown hK hP 1 rfl rfl 7 (by decide) (htb _ mw_69) (fun _ h9 => h9) rfl d_B_add_93 ?_
      refine lv_iload hx hb d_B_add_96 (lv_at hl 0 rfl) ?_
      refine lv_iconst (v := 0) hx hb d_B_add_98 (by decide) ?_
      refine q_iast hx hb hK hP hD hS 8 6 rfl rfl nb (x := 0) (by omega) (by decide) d_B_add_99 (fun H locs hP hD hS => ?_)
      have hP : va_P D classes (wA ad kd (up (up (up (up (up (up (up g 2 nb a1) 3 nb a2) 4 nb (nI k)) 5 nb ((g 5 k) + 1)) 6 nb (g 6 k)) 7 nb a4) 8 nb 0) z v) H := hP
      have hD : va_D A (wA ad kd (up (up (up (up (up (up (up g 2 nb a1) 3 nb a2) 4 nb (nI k)) 5 nb ((g 5 k) + 1)) 6 nb (g 6 k)) 7 nb a4) 8 nb 0) z v) := hD
      refine lv_aload_n hx hb d_B_add_100 rfl (lv_at hl 1 rfl) ?_
      refine lv_dup hx hb d_B_add_101 rfl ?_
      refine va_get (D := D) (ci := 1) (v := .int (nI nb)) (C := R_B) (T := F_B) (N := 8) hx hb htb iw_B hown hK hP 1 rfl rfl 0 (by decide) (htb _ mw_55) (fun _ h9 => h9) (congrArg (fun x => some (Value.int x)) hnb) d_B_add_102 ?_
      refine lv_iconst (v := 1) hx hb d_B_add_105 (by decide) ?_
      refine lv_iadd hx hb d_B_add_106 ?_
      refine va_put (D := D) (ci := 1) (v := .int ((nI nb) + 1)) (ty := .int) (C := R_B) (T := F_B) (N := 8) hx hb htb iw_B t_B t_B_ok n_B hown hK hP hD hS 1 rfl rfl 0 (by decide) (htb _ mw_55) (fun _ h9 => h9) rfl (by decide +kernel) rfl rfl (Nat.le_of_ble_eq_true rfl) d_B_add_107 (fun H locs hP hD hS => ?_)
      have hP : va_P D classes (wA ad kd (up (up (up (up (up (up (up g 2 nb a1) 3 nb a2) 4 nb (nI k)) 5 nb ((g 5 k) + 1)) 6 nb (g 6 k)) 7 nb a4) 8 nb 0) z (upd v 2 ((nI nb) + 1))) H := hP
      have hD : va_D A (wA ad kd (up (up (up (up (up (up (up g 2 nb a1) 3 nb a2) 4 nb (nI k)) 5 nb ((g 5 k) + 1)) 6 nb (g 6 k)) 7 nb a4) 8 nb 0) z (upd v 2 ((nI nb) + 1))) := hD
      refine lv_iload hx hb d_B_add_110 (lv_at hl 0 rfl) ?_
      exact hret _ _ _ _ _ rfl (by simp only [addB, c1, ek, if_true, Bool.false_eq_true, if_false]; exact hP) hS d_B_add_112
set_option maxHeartbeats 4000000 in
set_option maxRecDepth 100000 in
theorem c_B_nextFreeNumber (l : Launch) (D : va_G) (ad : Nat → Nat) (kd : Nat → ClassId) (g : Nat → Nat → Int32) (z : Nat → Int64) (v : Nat → Int32) (nb : Nat) (hnb : v 2 = nI nb) (hb6 : nb ≤ 60) (k : Nat) (hk : k < 60) : RD l y_B_nextFreeNumber (.code y_B_nextFreeNumber b_B_nextFreeNumber 4 (some .int) :: TB) ({ frames := 1, cells := 0, slots := 0, locals := 23 } : Room) [.ref (ad 1), .int (nI k)] D classes (wA ad kd g z v) (tA kd) (nfnL g nb k 60 1) := by
  refine rd_of (by decide +kernel) (rfl) (Nat.le_of_ble_eq_true rfl) ?_
  intro p e s m args below meth c Q ls hx hb hml htb hown hP hK hl hret
  have hl : lv_has ls 4 [(0, .ref (ad 1)), (1, .int (nI k))] := hl
  refine lv_iconst (v := 1) hx hb d_B_nextFreeNumber_0 (by decide) ?_
  refine lv_istore_n (lv' := [(2, .int 1), (0, .ref (ad 1)), (1, .int (nI k))]) hx hb d_B_nextFreeNumber_1 rfl hl (by decide) rfl (fun ls hl => ?_)
  have lp2 : ∀ (n : Nat) (f j : Nat), f + j = 61 → f + 1 ≤ n → nfnL g nb k f j = nfnL g nb k 60 1 → ∀ (ls : Array Slot), lv_has ls 4 [(0, .ref (ad 1)), (1, .int (nI k)), (2, .int (nI j))] → W p l e ({ frames := 1, cells := 0, slots := 0, locals := 23 } : Room) s m args below meth c s.heap [] 0 0 Q (F0 m 2 ls []) := by
    intro n
    induction n with
    | zero => intro f j hj hm hf ls hl; exact absurd hm (by omega)
    | succ n ih =>
      intro f j hj hm hf ls hl
      refine lv_iload_n hx hb d_B_nextFreeNumber_2 rfl (lv_at hl 2 rfl) ?_
      refine lv_bipush (v := 60) hx hb d_B_nextFreeNumber_3 (by decide) ?_
      refine q_icmp_gt (a := j) (b := 60) (tgt := 47) hx hb (by omega) (by omega) d_B_nextFreeNumber_5 (by decide) (fun c1 => ?_) (fun c1 => ?_)
      · refine lv_iconst (v := (-1)) hx hb d_B_nextFreeNumber_47 (by decide) ?_
        exact hret _ _ _ (by rw [← hf, show f = 0 by omega]; rfl) d_B_nextFreeNumber_48
      · obtain ⟨f, rfl⟩ : ∃ q, f = q + 1 := ⟨f - 1, by omega⟩
        refine lv_aload_n hx hb d_B_nextFreeNumber_8 rfl (lv_at hl 0 rfl) ?_
        refine va_get (D := D) (ci := 1) (v := .ref (ad 3)) (C := R_B) (T := F_B) (N := 8) hx hb htb iw_B hown hK hP 1 rfl rfl 2 (by decide) (htb _ mw_59) (fun _ h9 => h9) rfl d_B_nextFreeNumber_9 ?_
        refine lv_iload_n hx hb d_B_nextFreeNumber_12 rfl (lv_at hl 1 rfl) ?_
        refine q_iald hx hb hK hP 3 1 rfl rfl k (by omega) (by decide) d_B_nextFreeNumber_13 ?_
        refine lv_iload_n hx hb d_B_nextFreeNumber_14 rfl (lv_at hl 2 rfl) ?_
        refine lv_iadd hx hb d_B_nextFreeNumber_15 ?_
        refine lv_istore_n (lv' := [(3, .int ((g 3 k) + (nI j))), (0, .ref (ad 1)), (1, .int (nI k)), (2, .int (nI j))]) hx hb d_B_nextFreeNumber_16 rfl hl (by decide) rfl (fun ls hl => ?_)
        refine lv_iload_n hx hb d_B_nextFreeNumber_17 rfl (lv_at hl 0 rfl) ?_
        refine lv_ldc (v := 99999999) hx hb hown (htb _ mw_495) d_B_nextFreeNumber_18 ?_
        refine lv_icmp_le (tgt := 25) hx hb d_B_nextFreeNumber_20 (by decide) (fun c2 => ?_) (fun c2 => ?_)
        · refine lv_aload_n hx hb d_B_nextFreeNumber_25 rfl (lv_at hl 1 rfl) ?_
          refine lv_aload_n hx hb d_B_nextFreeNumber_26 rfl (lv_at hl 1 rfl) ?_
          refine va_get (D := D) (ci := 1) (v := .ref (ad 2)) (C := R_B) (T := F_B) (N := 8) hx hb htb iw_B hown hK hP 1 rfl rfl 1 (by decide) (htb _ mw_57) (fun _ h9 => h9) rfl d_B_nextFreeNumber_27 ?_
          refine lv_iload_n hx hb d_B_nextFreeNumber_30 rfl (lv_at hl 2 rfl) ?_
          refine q_iald hx hb hK hP 2 0 rfl rfl k (by omega) (by decide) d_B_nextFreeNumber_31 ?_
          refine lv_iload_n hx hb d_B_nextFreeNumber_32 rfl (lv_at hl 0 rfl) ?_
          refine rdV (As := [.int (g 2 k), .int ((g 3 k) + (nI j))]) (rest := []) (b := ad 1) ⟨hx, hb, hml, hown, htb⟩ (c_B_isTaken l D ad kd g z v nb hnb hb6 (g 2 k) ((g 3 k) + (nI j))) (cwV (C := R_B) 2 htb (gV tb_good mw_496 mw_394 mw_395 mw_28 mw_396) rfl rfl rfl (by decide +kernel) ⟨Nat.le_of_ble_eq_true rfl, Nat.le_of_ble_eq_true rfl⟩) hP hK (va_recv hK hP (ci := 1) (q0 := 1) rfl rfl) rfl hl.1 rfl (lv_room (Nat.le_of_ble_eq_true rfl)) d_B_nextFreeNumber_33 ⟨Nat.zero_le _, Nat.zero_le _⟩ ?_
          refine lv_if_ne (tgt := 41) hx hb d_B_nextFreeNumber_36 (by decide) (fun c3 => ?_) (fun c3 => ?_)
          · replace c3 := bI_t c3
            refine lv_iinc (v := (nI (j + 1))) (lv' := [(2, .int (nI (j + 1))), (3, .int ((g 3 k) + (nI j))), (0, .ref (ad 1)), (1, .int (nI k))]) hx hb d_B_nextFreeNumber_41 hl (k := 3) rfl (q_inc _) (by decide) rfl (fun ls hl => ?_)
            refine lv_goto (tgt := 2) hx hb d_B_nextFreeNumber_44 (by decide) ?_
            exact ih f (j + 1) (by omega) (by omega) (by rw [← hf]; show _ = (if g 3 k + nI j ≤ 99999999 then (if takB g nb (g 2 k) (g 3 k + nI j) = true then nfnL g nb k f (j + 1) else g 3 k + nI j) else -1); rw [if_pos c2, if_pos c3]) _ (lv_sub hl [2, 3, 0] rfl)
          · replace c3 := bI_f c3
            refine lv_iload_n hx hb d_B_nextFreeNumber_39 rfl (lv_at hl 0 rfl) ?_
            exact hret _ _ _ (by rw [← hf]; exact ((if_pos c2).trans (if_neg (by rw [c3]; decide))).symm) d_B_nextFreeNumber_40
        · refine lv_iconst (v := (-1)) hx hb d_B_nextFreeNumber_23 (by decide) ?_
          exact hret _ _ _ (by rw [← hf]; exact (if_neg c2).symm) d_B_nextFreeNumber_24
  exact lp2 61 60 1 rfl (by omega) rfl _ (lv_sub hl [1, 2, 0] rfl)
end
section
set_option maxHeartbeats 4000000 in
set_option maxRecDepth 100000 in
theorem c_N_isFull (l : Launch) (D : va_G) (ad : Nat → Nat) (kd : Nat → ClassId) (g : Nat → Nat → Int32) (z : Nat → Int64) (v : Nat → Int32) (nl : Nat) (hnl : v 3 = nI nl) (hl2 : nl ≤ 200) : RD l y_N_isFull (.code y_N_isFull b_N_isFull 1 (some .boolean) :: TB) ({ frames := 0, cells := 0, slots := 0, locals := 0 } : Room) [.ref (ad 9)] D classes (wA ad kd g z v) (tA kd) (bI (decide (200 ≤ nl))) := by
  refine rd_of (by decide +kernel) (bI_nar _) (Nat.le_of_ble_eq_true rfl) ?_
  intro p e s m args below meth c Q ls hx hb hml htb hown hP hK hl hret
  have hl : lv_has ls 1 [(0, .ref (ad 9))] := hl
  refine lv_aload_n hx hb d_N_isFull_0 rfl (lv_at hl 0 rfl) ?_
  refine va_get (D := D) (ci := 2) (v := .int (nI nl)) (C := R_N) (T := F_N) (N := 6) hx hb htb iw_N hown hK hP 9 rfl rfl 0 (by decide) (htb _ mw_95) (fun _ h9 => h9) (congrArg (fun x => some (Value.int x)) hnl) d_N_isFull_1 ?_
  refine lv_sipush (v := 200) hx hb d_N_isFull_4 (by decide) ?_
  refine q_icmp_lt (a := nl) (b := 200) (tgt := 14) hx hb (by omega) (by omega) d_N_isFull_7 (by decide) (fun c1 => ?_) (fun c1 => ?_)
  · refine lv_iconst (v := 0) hx hb d_N_isFull_14 (by decide) ?_
    exact hret _ _ _ (by simp [bI, c1]) d_N_isFull_15
  · refine lv_iconst (v := 1) hx hb d_N_isFull_10 (by decide) ?_
    refine lv_goto (tgt := 15) hx hb d_N_isFull_11 (by decide) ?_
    exact hret _ _ _ (by simp [bI, c1]) d_N_isFull_15
set_option maxHeartbeats 4000000 in
set_option maxRecDepth 100000 in
theorem c_N_add (l : Launch) (D : va_G) (ad : Nat → Nat) (kd : Nat → ClassId) (g : Nat → Nat → Int32) (z : Nat → Int64) (v : Nat → Int32) (nl : Nat) (hnl : v 3 = nI nl) (hl2 : nl ≤ 200) (hlt : nl < 200) (k : Nat) (hk : k < 60) (x q : Int32) : WRi l y_N_add (.code y_N_add b_N_add 4 (some .int) :: TB) ({ frames := 0, cells := 0, slots := 0, locals := 0 } : Room) [.ref (ad 9), .int (nI k), .int x, .int q] D classes (wA ad kd g z v) (wA ad kd (addN g nl k x q) z (upd v 3 (nI nl + 1))) (tA kd) (g 12 k) := by
  refine wr_of (by decide +kernel) (rfl) (Nat.le_of_ble_eq_true rfl) ?_
  intro p e s m args below meth c Q ls A hx hb hml htb hown hP hK hD hS hA hl hret
  have hl : lv_has ls 4 [(0, .ref (ad 9)), (1, .int (nI k)), (2, .int x), (3, .int q)] := hl
  refine lv_aload_n hx hb d_N_add_0 rfl (lv_at hl 0 rfl) ?_
  refine va_get (D := D) (ci := 2) (v := .ref (ad 10)) (C := R_N) (T := F_N) (N := 6) hx hb htb iw_N hown hK hP 9 rfl rfl 1 (by decide) (htb _ mw_97) (fun _ h9 => h9) rfl d_N_add_1 ?_
  refine lv_aload_n hx hb d_N_add_4 rfl (lv_at hl 0 rfl) ?_
  refine va_get (D := D) (ci := 2) (v := .int (nI nl)) (C := R_N) (T := F_N) (N := 6) hx hb htb iw_N hown hK hP 9 rfl rfl 0 (by decide) (htb _ mw_95) (fun _ h9 => h9) (congrArg (fun x => some (Value.int x)) hnl) d_N_add_5 ?_
  refine lv_iload_n hx hb d_N_add_8 rfl (lv_at hl 1 rfl) ?_
  refine q_iast hx hb hK hP hD hS 10 7 rfl rfl nl (x := (nI k)) (by omega) (by decide) d_N_add_9 (fun H locs hP hD hS => ?_)
  have hP : va_P D classes (wA ad kd (up g 10 nl (nI k)) z v) H := hP
  have hD : va_D A (wA ad kd (up g 10 nl (nI k)) z v) := hD
  refine lv_aload_n hx hb d_N_add_10 rfl (lv_at hl 0 rfl) ?_
  refine va_get (D := D) (ci := 2) (v := .ref (ad 11)) (C := R_N) (T := F_N) (N := 6) hx hb htb iw_N hown hK hP 9 rfl rfl 2 (by decide) (htb _ mw_98) (fun _ h9 => h9) rfl d_N_add_11 ?_
  refine lv_aload_n hx hb d_N_add_14 rfl (lv_at hl 0 rfl) ?_
  refine va_get (D := D) (ci := 2) (v := .int (nI nl)) (C := R_N) (T := F_N) (N := 6) hx hb htb iw_N hown hK hP 9 rfl rfl 0 (by decide) (htb _ mw_95) (fun _ h9 => h9) (congrArg (fun x => some (Value.int x)) hnl) d_N_add_15 ?_
  refine lv_iload_n hx hb d_N_add_18 rfl (lv_at hl 2 rfl) ?_
  refine q_iast hx hb hK hP hD hS 11 8 rfl rfl nl (x := x) (by omega) (by decide) d_N_add_19 (fun H locs hP hD hS => ?_)
  have hP : va_P D classes (wA ad kd (up (up g 10 nl (nI k)) 11 nl x) z v) H := hP
  have hD : va_D A (wA ad kd (up (up g 10 nl (nI k)) 11 nl x) z v) := hD
  refine lv_aload_n hx hb d_N_add_20 rfl (lv_at hl 0 rfl) ?_
  refine lv_dup hx hb d_N_add_21 rfl ?_
  refine va_get (D := D) (ci := 2) (v := .int (nI nl)) (C := R_N) (T := F_N) (N := 6) hx hb htb iw_N hown hK hP 9 rfl rfl 0 (by decide) (htb _ mw_95) (fun _ h9 => h9) (congrArg (fun x => some (Value.int x)) hnl) d_N_add_22 ?_
  refine lv_iconst (v := 1) hx hb d_N_add_25 (by decide) ?_
  refine lv_iadd hx hb d_N_add_26 ?_
  refine va_put (D := D) (ci := 2) (v := .int ((nI nl) + 1)) (ty := .int) (C := R_N) (T := F_N) (N := 6) hx hb htb iw_N t_N t_N_ok n_N hown hK hP hD hS 9 rfl rfl 0 (by decide) (htb _ mw_95) (fun _ h9 => h9) rfl (by decide +kernel) rfl rfl (Nat.le_of_ble_eq_true rfl) d_N_add_27 (fun H locs hP hD hS => ?_)
  have hP : va_P D classes (wA ad kd (up (up g 10 nl (nI k)) 11 nl x) z (upd v 3 ((nI nl) + 1))) H := hP
  have hD : va_D A (wA ad kd (up (up g 10 nl (nI k)) 11 nl x) z (upd v 3 ((nI nl) + 1))) := hD
  refine lv_aload_n hx hb d_N_add_30 rfl (lv_at hl 0 rfl) ?_
  refine va_get (D := D) (ci := 2) (v := .ref (ad 13)) (C := R_N) (T := F_N) (N := 6) hx hb htb iw_N hown hK hP 9 rfl rfl 4 (by decide) (htb _ mw_101) (fun _ h9 => h9) rfl d_N_add_31 ?_
  refine lv_iload_n hx hb d_N_add_34 rfl (lv_at hl 1 rfl) ?_
  refine lv_dup2_11 hx hb d_N_add_35 rfl rfl ?_
  refine q_iald hx hb hK hP 13 10 rfl rfl k (by omega) (by decide) d_N_add_36 ?_
  refine lv_iload_n hx hb d_N_add_37 rfl (lv_at hl 2 rfl) ?_
  refine lv_iadd hx hb d_N_add_38 ?_
  refine q_iast hx hb hK hP hD hS 13 10 rfl rfl k (x := ((g 13 k) + x)) (by omega) (by decide) d_N_add_39 (fun H locs hP hD hS => ?_)
  have hP : va_P D classes (wA ad kd (up (up (up g 10 nl (nI k)) 11 nl x) 13 k ((g 13 k) + x)) z (upd v 3 ((nI nl) + 1))) H := hP
  have hD : va_D A (wA ad kd (up (up (up g 10 nl (nI k)) 11 nl x) 13 k ((g 13 k) + x)) z (upd v 3 ((nI nl) + 1))) := hD
  refine lv_aload_n hx hb d_N_add_40 rfl (lv_at hl 0 rfl) ?_
  refine va_get (D := D) (ci := 2) (v := .ref (ad 14)) (C := R_N) (T := F_N) (N := 6) hx hb htb iw_N hown hK hP 9 rfl rfl 5 (by decide) (htb _ mw_103) (fun _ h9 => h9) rfl d_N_add_41 ?_
  refine lv_iload_n hx hb d_N_add_44 rfl (lv_at hl 1 rfl) ?_
  refine lv_dup2_11 hx hb d_N_add_45 rfl rfl ?_
  refine q_iald hx hb hK hP 14 11 rfl rfl k (by omega) (by decide) d_N_add_46 ?_
  refine lv_iload_n hx hb d_N_add_47 rfl (lv_at hl 3 rfl) ?_
  refine lv_iadd hx hb d_N_add_48 ?_
  refine q_iast hx hb hK hP hD hS 14 11 rfl rfl k (x := ((g 14 k) + q)) (by omega) (by decide) d_N_add_49 (fun H locs hP hD hS => ?_)
  have hP : va_P D classes (wA ad kd (up (up (up (up g 10 nl (nI k)) 11 nl x) 13 k ((g 13 k) + x)) 14 k ((g 14 k) + q)) z (upd v 3 ((nI nl) + 1))) H := hP
  have hD : va_D A (wA ad kd (up (up (up (up g 10 nl (nI k)) 11 nl x) 13 k ((g 13 k) + x)) 14 k ((g 14 k) + q)) z (upd v 3 ((nI nl) + 1))) := hD
  refine lv_aload_n hx hb d_N_add_50 rfl (lv_at hl 0 rfl) ?_
  refine va_get (D := D) (ci := 2) (v := .ref (ad 12)) (C := R_N) (T := F_N) (N := 6) hx hb htb iw_N hown hK hP 9 rfl rfl 3 (by decide) (htb _ mw_99) (fun _ h9 => h9) rfl d_N_add_51 ?_
  refine lv_iload_n hx hb d_N_add_54 rfl (lv_at hl 1 rfl) ?_
  refine lv_dup2_11 hx hb d_N_add_55 rfl rfl ?_
  refine q_iald hx hb hK hP 12 9 rfl rfl k (by omega) (by decide) d_N_add_56 ?_
  refine lv_iconst (v := 1) hx hb d_N_add_57 (by decide) ?_
  refine lv_iadd hx hb d_N_add_58 ?_
  refine q_iast hx hb hK hP hD hS 12 9 rfl rfl k (x := ((g 12 k) + 1)) (by omega) (by decide) d_N_add_59 (fun H locs hP hD hS => ?_)
  have hP : va_P D classes (wA ad kd (up (up (up (up (up g 10 nl (nI k)) 11 nl x) 13 k ((g 13 k) + x)) 14 k ((g 14 k) + q)) 12 k ((g 12 k) + 1)) z (upd v 3 ((nI nl) + 1))) H := hP
  have hD : va_D A (wA ad kd (up (up (up (up (up g 10 nl (nI k)) 11 nl x) 13 k ((g 13 k) + x)) 14 k ((g 14 k) + q)) 12 k ((g 12 k) + 1)) z (upd v 3 ((nI nl) + 1))) := hD
  refine lv_aload_n hx hb d_N_add_60 rfl (lv_at hl 0 rfl) ?_
  refine va_get (D := D) (ci := 2) (v := .ref (ad 12)) (C := R_N) (T := F_N) (N := 6) hx hb htb iw_N hown hK hP 9 rfl rfl 3 (by decide) (htb _ mw_99) (fun _ h9 => h9) rfl d_N_add_61 ?_
  refine lv_iload_n hx hb d_N_add_64 rfl (lv_at hl 1 rfl) ?_
  refine q_iald hx hb hK hP 12 9 rfl rfl k (by omega) (by decide) d_N_add_65 ?_
  refine lv_iconst (v := 1) hx hb d_N_add_66 (by decide) ?_
  refine lv_isub hx hb d_N_add_67 ?_
  exact hret _ _ _ _ _ (by show upd (g 12) k (g 12 k + 1) k - 1 = g 12 k; rw [pk_us]; exact Int32.add_sub_cancel _ _) hP hS d_N_add_68
set_option maxHeartbeats 4000000 in
set_option maxRecDepth 100000 in
theorem c_N_rowOf (l : Launch) (D : va_G) (ad : Nat → Nat) (kd : Nat → ClassId) (g : Nat → Nat → Int32) (z : Nat → Int64) (v : Nat → Int32) (nl : Nat) (hnl : v 3 = nI nl) (hl2 : nl ≤ 200) (x line : Int32) : RD l y_N_rowOf (.code y_N_rowOf b_N_rowOf 5 (some .int) :: TB) ({ frames := 0, cells := 0, slots := 0, locals := 0 } : Room) [.ref (ad 9), .int x, .int line] D classes (wA ad kd g z v) (tA kd) (rowN g nl x line) := by
  refine rd_of (by decide +kernel) (rfl) (Nat.le_of_ble_eq_true rfl) ?_
  intro p e s m args below meth c Q ls hx hb hml htb hown hP hK hl hret
  have hl : lv_has ls 5 [(0, .ref (ad 9)), (1, .int x), (2, .int line)] := hl
  refine lv_iconst (v := 0) hx hb d_N_rowOf_0 (by decide) ?_
  refine lv_istore_n (lv' := [(3, .int 0), (0, .ref (ad 9)), (1, .int x), (2, .int line)]) hx hb d_N_rowOf_1 rfl hl (by decide) rfl (fun ls hl => ?_)
  refine lv_iconst (v := 0) hx hb d_N_rowOf_2 (by decide) ?_
  refine lv_istore (lv' := [(4, .int 0), (3, .int 0), (0, .ref (ad 9)), (1, .int x), (2, .int line)]) hx hb d_N_rowOf_3 hl (by decide) rfl (fun ls hl => ?_)
  have lp5 : ∀ (n : Nat) (i : Nat) (f : Nat), i ≤ nl → nl + 1 ≤ i + n → f = cntN (fun k => decide (g 10 k = x)) i → pickN (fun k => decide (g 10 k = x)) line i = -1 → ∀ (ls : Array Slot), lv_has ls 5 [(0, .ref (ad 9)), (1, .int x), (2, .int line), (3, .int (nI f)), (4, .int (nI i))] → W p l e ({ frames := 0, cells := 0, slots := 0, locals := 0 } : Room) s m args below meth c s.heap [] 0 0 Q (F0 m 5 ls []) := by
    intro n
    induction n with
    | zero => intro i f hi hm hf hp ls hl; exact absurd hm (by omega)
    | succ n ih =>
      intro i f hi hm hf hp ls hl
      refine lv_iload hx hb d_N_rowOf_5 (lv_at hl 4 rfl) ?_
      refine lv_aload_n hx hb d_N_rowOf_7 rfl (lv_at hl 0 rfl) ?_
      refine va_get (D := D) (ci := 2) (v := .int (nI nl)) (C := R_N) (T := F_N) (N := 6) hx hb htb iw_N hown hK hP 9 rfl rfl 0 (by decide) (htb _ mw_95) (fun _ h9 => h9) (congrArg (fun x => some (Value.int x)) hnl) d_N_rowOf_8 ?_
      refine q_icmp_ge (a := i) (b := nl) (tgt := 42) hx hb (by omega) (by omega) d_N_rowOf_11 (by decide) (fun c1 => ?_) (fun c1 => ?_)
      · refine lv_iconst (v := (-1)) hx hb d_N_rowOf_42 (by decide) ?_
        exact hret _ _ _ (by show -1 = pickN (fun k => decide (g 10 k = x)) line nl; rw [show nl = i by omega, hp]) d_N_rowOf_43
      · refine lv_aload_n hx hb d_N_rowOf_14 rfl (lv_at hl 0 rfl) ?_
        refine va_get (D := D) (ci := 2) (v := .ref (ad 10)) (C := R_N) (T := F_N) (N := 6) hx hb htb iw_N hown hK hP 9 rfl rfl 1 (by decide) (htb _ mw_97) (fun _ h9 => h9) rfl d_N_rowOf_15 ?_
        refine lv_iload hx hb d_N_rowOf_18 (lv_at hl 4 rfl) ?_
        refine q_iald hx hb hK hP 10 7 rfl rfl i (by omega) (by decide) d_N_rowOf_20 ?_
        refine lv_iload_n hx hb d_N_rowOf_21 rfl (lv_at hl 1 rfl) ?_
        refine lv_icmp_ne (tgt := 36) hx hb d_N_rowOf_22 (by decide) (fun c2 => ?_) (fun c2 => ?_)
        · refine lv_iinc (v := (nI (i + 1))) (lv' := [(4, .int (nI (i + 1))), (0, .ref (ad 9)), (1, .int x), (2, .int line), (3, .int (nI f))]) hx hb d_N_rowOf_36 hl (k := 4) rfl (q_inc _) (by decide) rfl (fun ls hl => ?_)
          refine lv_goto (tgt := 5) hx hb d_N_rowOf_39 (by decide) ?_
          exact ih (i + 1) f (by omega) (by omega) (by rw [cntN_f (by simp [c1, c2]), hf]) (pickN_miss hp (by simp [c1, c2])) _ (lv_sub hl [1, 2, 3, 4, 0] rfl)
        · refine lv_iload_n hx hb d_N_rowOf_25 rfl (lv_at hl 3 rfl) ?_
          refine lv_iload_n hx hb d_N_rowOf_26 rfl (lv_at hl 2 rfl) ?_
          refine lv_icmp_ne (tgt := 33) hx hb d_N_rowOf_27 (by decide) (fun c3 => ?_) (fun c3 => ?_)
          · refine lv_iinc (v := (nI (f + 1))) (lv' := [(3, .int (nI (f + 1))), (0, .ref (ad 9)), (1, .int x), (2, .int line), (4, .int (nI i))]) hx hb d_N_rowOf_33 hl (k := 3) rfl (q_inc _) (by decide) rfl (fun ls hl => ?_)
            refine lv_iinc (v := (nI (i + 1))) (lv' := [(4, .int (nI (i + 1))), (3, .int (nI (f + 1))), (0, .ref (ad 9)), (1, .int x), (2, .int line)]) hx hb d_N_rowOf_36 hl (k := 4) rfl (q_inc _) (by decide) rfl (fun ls hl => ?_)
            refine lv_goto (tgt := 5) hx hb d_N_rowOf_39 (by decide) ?_
            exact ih (i + 1) (f + 1) (by omega) (by omega) (by rw [cntN_t (by simp [c1, c2, c3]), hf]) (pickN_pass hp (by rw [← hf]; assumption)) _ (lv_sub hl [2, 3, 4, 1, 0] rfl)
          · refine lv_iload hx hb d_N_rowOf_30 (lv_at hl 4 rfl) ?_
            exact hret _ _ _ (by show nI i = pickN (fun k => decide (g 10 k = x)) line nl; rw [pickN_hit (i := i) (by omega) hp (by simp [c1, c2, c3]) (by rw [← hf]; assumption) (by omega)]) d_N_rowOf_32
  exact lp5 (nl + 1) 0 0 (Nat.zero_le _) (by omega) rfl rfl _ (lv_sub hl [2, 3, 4, 1, 0] rfl)
set_option maxHeartbeats 4000000 in
set_option maxRecDepth 100000 in
theorem c_N_changeWeight (l : Launch) (D : va_G) (ad : Nat → Nat) (kd : Nat → ClassId) (g : Nat → Nat → Int32) (z : Nat → Int64) (v : Nat → Int32) (i : Nat) (hi : i < 200) (x : Int32) (j : Nat) (hj : j < 60) (hg : g 10 i = nI j) : WRi l y_N_changeWeight (.code y_N_changeWeight b_N_changeWeight 4 (some .int) :: TB) ({ frames := 0, cells := 0, slots := 0, locals := 0 } : Room) [.ref (ad 9), .int (nI i), .int x] D classes (wA ad kd g z v) (wA ad kd (chgN g i x j) z v) (tA kd) (x - g 11 i) := by
  refine wr_of (by decide +kernel) (rfl) (Nat.le_of_ble_eq_true rfl) ?_
  intro p e s m args below meth c Q ls A hx hb hml htb hown hP hK hD hS hA hl hret
  have hl : lv_has ls 4 [(0, .ref (ad 9)), (1, .int (nI i)), (2, .int x)] := hl
  refine lv_iload_n hx hb d_N_changeWeight_0 rfl (lv_at hl 2 rfl) ?_
  refine lv_aload_n hx hb d_N_changeWeight_1 rfl (lv_at hl 0 rfl) ?_
  refine va_get (D := D) (ci := 2) (v := .ref (ad 11)) (C := R_N) (T := F_N) (N := 6) hx hb htb iw_N hown hK hP 9 rfl rfl 2 (by decide) (htb _ mw_98) (fun _ h9 => h9) rfl d_N_changeWeight_2 ?_
  refine lv_iload_n hx hb d_N_changeWeight_5 rfl (lv_at hl 1 rfl) ?_
  refine q_iald hx hb hK hP 11 8 rfl rfl i (by omega) (by decide) d_N_changeWeight_6 ?_
  refine lv_isub hx hb d_N_changeWeight_7 ?_
  refine lv_istore_n (lv' := [(3, .int (x - (g 11 i))), (0, .ref (ad 9)), (1, .int (nI i)), (2, .int x)]) hx hb d_N_changeWeight_8 rfl hl (by decide) rfl (fun ls hl => ?_)
  refine lv_aload_n hx hb d_N_changeWeight_9 rfl (lv_at hl 1 rfl) ?_
  refine va_get (D := D) (ci := 2) (v := .ref (ad 11)) (C := R_N) (T := F_N) (N := 6) hx hb htb iw_N hown hK hP 9 rfl rfl 2 (by decide) (htb _ mw_98) (fun _ h9 => h9) rfl d_N_changeWeight_10 ?_
  refine lv_iload_n hx hb d_N_changeWeight_13 rfl (lv_at hl 2 rfl) ?_
  refine lv_iload_n hx hb d_N_changeWeight_14 rfl (lv_at hl 3 rfl) ?_
  refine q_iast hx hb hK hP hD hS 11 8 rfl rfl i (x := x) (by omega) (by decide) d_N_changeWeight_15 (fun H locs hP hD hS => ?_)
  have hP : va_P D classes (wA ad kd (up g 11 i x) z v) H := hP
  have hD : va_D A (wA ad kd (up g 11 i x) z v) := hD
  refine lv_aload_n hx hb d_N_changeWeight_16 rfl (lv_at hl 1 rfl) ?_
  refine va_get (D := D) (ci := 2) (v := .ref (ad 13)) (C := R_N) (T := F_N) (N := 6) hx hb htb iw_N hown hK hP 9 rfl rfl 4 (by decide) (htb _ mw_101) (fun _ h9 => h9) rfl d_N_changeWeight_17 ?_
  refine lv_aload_n hx hb d_N_changeWeight_20 rfl (lv_at hl 1 rfl) ?_
  refine va_get (D := D) (ci := 2) (v := .ref (ad 10)) (C := R_N) (T := F_N) (N := 6) hx hb htb iw_N hown hK hP 9 rfl rfl 1 (by decide) (htb _ mw_97) (fun _ h9 => h9) rfl d_N_changeWeight_21 ?_
  refine lv_iload_n hx hb d_N_changeWeight_24 rfl (lv_at hl 2 rfl) ?_
  refine q_iald hx hb hK hP 10 7 rfl rfl i (by omega) (by decide) d_N_changeWeight_25 ?_
  refine W.eq (congrArg (fun z => F0 m 26 ls (.int z :: [.ref (ad 13)])) (show (g 10 i) = (nI j) from hg)) ?_
  refine lv_dup2_11 hx hb d_N_changeWeight_26 rfl rfl ?_
  refine q_iald hx hb hK hP 13 10 rfl rfl j (by omega) (by decide) d_N_changeWeight_27 ?_
  refine lv_iload_n hx hb d_N_changeWeight_28 rfl (lv_at hl 0 rfl) ?_
  refine lv_iadd hx hb d_N_changeWeight_29 ?_
  refine q_iast hx hb hK hP hD hS 13 10 rfl rfl j (x := ((g 13 j) + (x - (g 11 i)))) (by omega) (by decide) d_N_changeWeight_30 (fun H locs hP hD hS => ?_)
  have hP : va_P D classes (wA ad kd (up (up g 11 i x) 13 j ((g 13 j) + (x - (g 11 i)))) z v) H := hP
  have hD : va_D A (wA ad kd (up (up g 11 i x) 13 j ((g 13 j) + (x - (g 11 i)))) z v) := hD
  refine lv_iload_n hx hb d_N_changeWeight_31 rfl (lv_at hl 0 rfl) ?_
  exact hret _ _ _ _ _ rfl hP hS d_N_changeWeight_32
set_option maxHeartbeats 4000000 in
set_option maxRecDepth 100000 in
theorem c_N_take (l : Launch) (D : va_G) (ad : Nat → Nat) (kd : Nat → ClassId) (g : Nat → Nat → Int32) (z : Nat → Int64) (v : Nat → Int32) (nl : Nat) (hnl : v 3 = nI nl) (hl2 : nl ≤ 200) (k : Nat) (hk : k < 60) (kg : Int32) : WRv l y_N_take (.code y_N_take b_N_take 6 none :: TB) ({ frames := 1, cells := 0, slots := 0, locals := 23 } : Room) [.ref (ad 9), .int (nI k), .int kg] D classes (wA ad kd g z v) (wA ad kd (takN k nl kg g) z v) (tA kd) := by
  refine wv_of (by decide +kernel) (Nat.le_of_ble_eq_true rfl) ?_
  intro p e s m args below meth c Q ls A hx hb hml htb hown hP hK hD hS hA hl hret
  have hl : lv_has ls 6 [(0, .ref (ad 9)), (1, .int (nI k)), (2, .int kg)] := hl
  refine lv_iload_n hx hb d_N_take_0 rfl (lv_at hl 2 rfl) ?_
  refine lv_istore_n (lv' := [(3, .int kg), (0, .ref (ad 9)), (1, .int (nI k)), (2, .int kg)]) hx hb d_N_take_1 rfl hl (by decide) rfl (fun ls hl => ?_)
  refine lv_aload_n hx hb d_N_take_2 rfl (lv_at hl 1 rfl) ?_
  refine va_get (D := D) (ci := 2) (v := .int (nI nl)) (C := R_N) (T := F_N) (N := 6) hx hb htb iw_N hown hK hP 9 rfl rfl 0 (by decide) (htb _ mw_95) (fun _ h9 => h9) (congrArg (fun x => some (Value.int x)) hnl) d_N_take_3 ?_
  refine lv_iconst (v := 1) hx hb d_N_take_6 (by decide) ?_
  refine lv_isub hx hb d_N_take_7 ?_
  refine lv_istore (lv' := [(4, .int ((nI nl) - 1)), (3, .int kg), (0, .ref (ad 9)), (1, .int (nI k)), (2, .int kg)]) hx hb d_N_take_8 hl (by decide) rfl (fun ls hl => ?_)
  have lp10 : ∀ (n : Nat) (r : Nat) (lf : Int32) (g1 : Nat → Nat → Int32) (H : Heap) (locs : List Loc), r ≤ nl → r + 1 ≤ n → takN k r lf g1 = takN k nl kg g → va_P D classes (wA ad kd g1 z v) H → va_D A (wA ad kd g1 z v) → va_S A s.heap H locs → ∀ (ls : Array Slot), lv_has ls 6 [(0, .ref (ad 9)), (1, .int (nI k)), (3, .int lf), (4, .int (rwI r))] → W p l e ({ frames := 1, cells := 0, slots := 0, locals := 23 } : Room) s m args below meth c H locs 0 0 Q (F0 m 10 ls []) := by
    intro n
    induction n with
    | zero => intro r lf g1 H locs hr hm hf hP hD hS ls hl; exact absurd hm (by omega)
    | succ n ih =>
      intro r lf g1 H locs hr hm hf hP hD hS ls hl
      refine lv_iload hx hb d_N_take_10 (lv_at hl 3 rfl) ?_
      refine lv_if_lt (tgt := 71) hx hb d_N_take_12 (by decide) (fun c1 => ?_) (fun c1 => ?_)
      · exact hret _ _ _ _ (by rw [← hf, show r = 0 from rwI_neg (by omega) c1]; exact hP) hS d_N_take_71
      · obtain ⟨q, rfl⟩ := rwI_pos c1
        rw [rwI_s] at hl
        refine lv_iload_n hx hb d_N_take_15 rfl (lv_at hl 2 rfl) ?_
        refine lv_if_le (tgt := 71) hx hb d_N_take_16 (by decide) (fun c2 => ?_) (fun c2 => ?_)
        · exact hret _ _ _ _ (by rw [← hf]; exact (show va_P D classes (wA ad kd (if lf ≤ 0 then g1 else if g1 10 q = nI k then takN k q (lf - (if g1 11 q < lf then g1 11 q else lf)) (chgN g1 q (g1 11 q - (if g1 11 q < lf then g1 11 q else lf)) k) else takN k q lf g1) z v) H by rw [if_pos c2]; exact hP)) hS d_N_take_71
        · refine lv_aload_n hx hb d_N_take_19 rfl (lv_at hl 0 rfl) ?_
          refine va_get (D := D) (ci := 2) (v := .ref (ad 10)) (C := R_N) (T := F_N) (N := 6) hx hb htb iw_N hown hK hP 9 rfl rfl 1 (by decide) (htb _ mw_97) (fun _ h9 => h9) rfl d_N_take_20 ?_
          refine lv_iload hx hb d_N_take_23 (lv_at hl 3 rfl) ?_
          refine q_iald hx hb hK hP 10 7 rfl rfl q (by omega) (by decide) d_N_take_25 ?_
          refine lv_iload_n hx hb d_N_take_26 rfl (lv_at hl 1 rfl) ?_
          refine lv_icmp_ne (tgt := 65) hx hb d_N_take_27 (by decide) (fun c3 => ?_) (fun c3 => ?_)
          · refine lv_iinc (v := (rwI q)) (lv' := [(4, .int (rwI q)), (0, .ref (ad 9)), (1, .int (nI k)), (3, .int lf)]) hx hb d_N_take_65 hl (k := 3) rfl (rwI_dec q) (by decide) rfl (fun ls hl => ?_)
            refine lv_goto (tgt := 10) hx hb d_N_take_68 (by decide) ?_
            exact ih q lf g1 H locs (by omega) (by omega) (by rw [← hf]; show takN k q lf g1 = (if lf ≤ 0 then g1 else if g1 10 q = nI k then takN k q (lf - (if g1 11 q < lf then g1 11 q else lf)) (chgN g1 q (g1 11 q - (if g1 11 q < lf then g1 11 q else lf)) k) else takN k q lf g1); rw [if_neg c2, if_neg c3]) hP hD hS _ (lv_sub hl [1, 2, 3, 0] rfl)
          · refine lv_iload_n hx hb d_N_take_30 rfl (lv_at hl 2 rfl) ?_
            refine lv_aload_n hx hb d_N_take_31 rfl (lv_at hl 0 rfl) ?_
            refine va_get (D := D) (ci := 2) (v := .ref (ad 11)) (C := R_N) (T := F_N) (N := 6) hx hb htb iw_N hown hK hP 9 rfl rfl 2 (by decide) (htb _ mw_98) (fun _ h9 => h9) rfl d_N_take_32 ?_
            refine lv_iload hx hb d_N_take_35 (lv_at hl 3 rfl) ?_
            refine q_iald hx hb hK hP 11 8 rfl rfl q (by omega) (by decide) d_N_take_37 ?_
            refine va_mmin hx hb (by rw [hml]; exact hl.1.symm) hown (htb _ mw_501) (htb _ mw_502) (htb _ mw_38) (htb _ mw_503) (Nat.le_of_ble_eq_true rfl) (Nat.le_of_ble_eq_true rfl) (Nat.zero_le _) (Nat.zero_le _) d_N_take_38 ?_
            refine lv_istore (lv' := [(5, .int (if (g1 11 q) < lf then (g1 11 q) else lf)), (0, .ref (ad 9)), (1, .int (nI k)), (3, .int lf), (4, .int (nI q))]) hx hb d_N_take_41 hl (by decide) rfl (fun ls hl => ?_)
            refine lv_aload_n hx hb d_N_take_43 rfl (lv_at hl 1 rfl) ?_
            refine lv_iload hx hb d_N_take_44 (lv_at hl 4 rfl) ?_
            refine lv_aload_n hx hb d_N_take_46 rfl (lv_at hl 1 rfl) ?_
            refine va_get (D := D) (ci := 2) (v := .ref (ad 11)) (C := R_N) (T := F_N) (N := 6) hx hb htb iw_N hown hK hP 9 rfl rfl 2 (by decide) (htb _ mw_98) (fun _ h9 => h9) rfl d_N_take_47 ?_
            refine lv_iload hx hb d_N_take_50 (lv_at hl 4 rfl) ?_
            refine q_iald hx hb hK hP 11 8 rfl rfl q (by omega) (by decide) d_N_take_52 ?_
            refine lv_iload hx hb d_N_take_53 (lv_at hl 0 rfl) ?_
            refine lv_isub hx hb d_N_take_55 ?_
            refine wrV (As := [.int (nI q), .int ((g1 11 q) - (if (g1 11 q) < lf then (g1 11 q) else lf))]) (rest := []) (b := ad 9) ⟨hx, hb, hml, hown, htb⟩ (c_N_changeWeight l D ad kd g1 z v q (by omega) ((g1 11 q) - (if (g1 11 q) < lf then (g1 11 q) else lf)) k hk c3) (cwV (C := R_N) 2 htb (gV tb_good mw_504 mw_452 mw_453 mw_29 mw_454) rfl rfl rfl (by decide +kernel) ⟨Nat.le_of_ble_eq_true rfl, Nat.le_of_ble_eq_true rfl⟩) hP hK hD hS hA (va_recv hK hP (ci := 2) (q0 := 9) rfl rfl) rfl hl.1 rfl (lv_room (Nat.le_of_ble_eq_true rfl)) d_N_take_56 ⟨Nat.zero_le _, Nat.zero_le _⟩ (fun H locs hP hS => ?_)
            have hP : va_P D classes (wA ad kd (chgN g1 q ((g1 11 q) - (if (g1 11 q) < lf then (g1 11 q) else lf)) k) z v) H := hP
            have hD : va_D A (wA ad kd (chgN g1 q ((g1 11 q) - (if (g1 11 q) < lf then (g1 11 q) else lf)) k) z v) := wA_D hD
            refine lv_pop hx hb d_N_take_59 rfl ?_
            refine lv_iload_n hx hb d_N_take_60 rfl (lv_at hl 3 rfl) ?_
            refine lv_iload hx hb d_N_take_61 (lv_at hl 0 rfl) ?_
            refine lv_isub hx hb d_N_take_63 ?_
            refine lv_istore_n (lv' := [(3, .int (lf - (if (g1 11 q) < lf then (g1 11 q) else lf))), (5, .int (if (g1 11 q) < lf then (g1 11 q) else lf)), (0, .ref (ad 9)), (1, .int (nI k)), (4, .int (nI q))]) hx hb d_N_take_64 rfl hl (by decide) rfl (fun ls hl => ?_)
            refine lv_iinc (v := (rwI q)) (lv' := [(4, .int (rwI q)), (3, .int (lf - (if (g1 11 q) < lf then (g1 11 q) else lf))), (5, .int (if (g1 11 q) < lf then (g1 11 q) else lf)), (0, .ref (ad 9)), (1, .int (nI k))]) hx hb d_N_take_65 hl (k := 4) rfl (rwI_dec q) (by decide) rfl (fun ls hl => ?_)
            refine lv_goto (tgt := 10) hx hb d_N_take_68 (by decide) ?_
            exact ih q (lf - (if (g1 11 q) < lf then (g1 11 q) else lf)) (chgN g1 q ((g1 11 q) - (if (g1 11 q) < lf then (g1 11 q) else lf)) k) H locs (by omega) (by omega) (by rw [← hf]; show takN k q (lf - (if (g1 11 q) < lf then (g1 11 q) else lf)) (chgN g1 q ((g1 11 q) - (if (g1 11 q) < lf then (g1 11 q) else lf)) k) = (if lf ≤ 0 then g1 else if g1 10 q = nI k then takN k q (lf - (if g1 11 q < lf then g1 11 q else lf)) (chgN g1 q (g1 11 q - (if g1 11 q < lf then g1 11 q else lf)) k) else takN k q lf g1); rw [if_neg c2, if_pos c3]) hP hD hS _ (lv_sub hl [3, 4, 1, 0] rfl)
  exact lp10 (nl + 1) nl kg g s.heap [] (Nat.le_refl _) (Nat.le_refl _) rfl hP hD hS _ (lv_sub hl [2, 3, 1, 0] rfl)
end
section
set_option maxHeartbeats 4000000 in
set_option maxRecDepth 100000 in
theorem c_X_has (l : Launch) (D : va_G) (ad : Nat → Nat) (kd : Nat → ClassId) (g : Nat → Nat → Int32) (z : Nat → Int64) (v : Nat → Int32) (nx : Nat) (hnx : v 4 = nI nx) (hx6 : nx ≤ 60) (x : Int32) : RD l y_X_has (.code y_X_has b_X_has 2 (some .boolean) :: TB) ({ frames := 0, cells := 0, slots := 0, locals := 0 } : Room) [.ref (ad 15), .int x] D classes (wA ad kd g z v) (tA kd) (bI (inN nx x)) := by
  refine rd_of (by decide +kernel) (bI_nar _) (Nat.le_of_ble_eq_true rfl) ?_
  intro p e s m args below meth c Q ls hx hb hml htb hown hP hK hl hret
  have hl : lv_has ls 2 [(0, .ref (ad 15)), (1, .int x)] := hl
  refine lv_iload_n hx hb d_X_has_0 rfl (lv_at hl 1 rfl) ?_
  refine lv_if_lt (tgt := 16) hx hb d_X_has_1 (by decide) (fun c1 => ?_) (fun c1 => ?_)
  · refine lv_iconst (v := 0) hx hb d_X_has_16 (by decide) ?_
    exact hret _ _ _ (by simp [inN, bI, c1]) d_X_has_17
  · refine lv_iload_n hx hb d_X_has_4 rfl (lv_at hl 1 rfl) ?_
    refine lv_aload_n hx hb d_X_has_5 rfl (lv_at hl 0 rfl) ?_
    refine va_get (D := D) (ci := 3) (v := .int (nI nx)) (C := R_X) (T := F_X) (N := 9) hx hb htb iw_X hown hK hP 15 rfl rfl 0 (by decide) (htb _ mw_124) (fun _ h9 => h9) (congrArg (fun x => some (Value.int x)) hnx) d_X_has_6 ?_
    refine lv_icmp_ge (tgt := 16) hx hb d_X_has_9 (by decide) (fun c2 => ?_) (fun c2 => ?_)
    · refine lv_iconst (v := 0) hx hb d_X_has_16 (by decide) ?_
      exact hret _ _ _ (by simp [inN, bI, c1, c2]) d_X_has_17
    · refine lv_iconst (v := 1) hx hb d_X_has_12 (by decide) ?_
      refine lv_goto (tgt := 17) hx hb d_X_has_13 (by decide) ?_
      exact hret _ _ _ (by simp [inN, bI, c1, c2]) d_X_has_17
set_option maxHeartbeats 4000000 in
set_option maxRecDepth 100000 in
theorem c_X_isFull (l : Launch) (D : va_G) (ad : Nat → Nat) (kd : Nat → ClassId) (g : Nat → Nat → Int32) (z : Nat → Int64) (v : Nat → Int32) (nx : Nat) (hnx : v 4 = nI nx) (hx6 : nx ≤ 60) : RD l y_X_isFull (.code y_X_isFull b_X_isFull 1 (some .boolean) :: TB) ({ frames := 0, cells := 0, slots := 0, locals := 0 } : Room) [.ref (ad 15)] D classes (wA ad kd g z v) (tA kd) (bI (decide (60 ≤ nx))) := by
  refine rd_of (by decide +kernel) (bI_nar _) (Nat.le_of_ble_eq_true rfl) ?_
  intro p e s m args below meth c Q ls hx hb hml htb hown hP hK hl hret
  have hl : lv_has ls 1 [(0, .ref (ad 15))] := hl
  refine lv_aload_n hx hb d_X_isFull_0 rfl (lv_at hl 0 rfl) ?_
  refine va_get (D := D) (ci := 3) (v := .int (nI nx)) (C := R_X) (T := F_X) (N := 9) hx hb htb iw_X hown hK hP 15 rfl rfl 0 (by decide) (htb _ mw_124) (fun _ h9 => h9) (congrArg (fun x => some (Value.int x)) hnx) d_X_isFull_1 ?_
  refine lv_bipush (v := 60) hx hb d_X_isFull_4 (by decide) ?_
  refine q_icmp_lt (a := nx) (b := 60) (tgt := 13) hx hb (by omega) (by omega) d_X_isFull_6 (by decide) (fun c1 => ?_) (fun c1 => ?_)
  · refine lv_iconst (v := 0) hx hb d_X_isFull_13 (by decide) ?_
    exact hret _ _ _ (by simp [bI, c1]) d_X_isFull_14
  · refine lv_iconst (v := 1) hx hb d_X_isFull_9 (by decide) ?_
    refine lv_goto (tgt := 14) hx hb d_X_isFull_10 (by decide) ?_
    exact hret _ _ _ (by simp [bI, c1]) d_X_isFull_14
set_option maxHeartbeats 4000000 in
set_option maxRecDepth 100000 in
theorem c_X_isTaken (l : Launch) (D : va_G) (ad : Nat → Nat) (kd : Nat → ClassId) (g : Nat → Nat → Int32) (z : Nat → Int64) (v : Nat → Int32) (nx : Nat) (hnx : v 4 = nI nx) (hx6 : nx ≤ 60) (x y : Int32) : RD l y_X_isTaken (.code y_X_isTaken b_X_isTaken 4 (some .boolean) :: TB) ({ frames := 0, cells := 0, slots := 0, locals := 0 } : Room) [.ref (ad 15), .int x, .int y] D classes (wA ad kd g z v) (tA kd) (bI (takX g nx x y)) := by
  refine rd_of (by decide +kernel) (bI_nar _) (Nat.le_of_ble_eq_true rfl) ?_
  intro p e s m args below meth c Q ls hx hb hml htb hown hP hK hl hret
  have hl : lv_has ls 4 [(0, .ref (ad 15)), (1, .int x), (2, .int y)] := hl
  refine lv_iconst (v := 0) hx hb d_X_isTaken_0 (by decide) ?_
  refine lv_istore_n (lv' := [(3, .int 0), (0, .ref (ad 15)), (1, .int x), (2, .int y)]) hx hb d_X_isTaken_1 rfl hl (by decide) rfl (fun ls hl => ?_)
  have lp2 : ∀ (n : Nat) (i : Nat), i ≤ nx → nx + 1 ≤ i + n → anyN (fun k => decide (g 16 k = x) && decide (g 17 k = y)) i = false → ∀ (ls : Array Slot), lv_has ls 4 [(0, .ref (ad 15)), (1, .int x), (2, .int y), (3, .int (nI i))] → W p l e ({ frames := 0, cells := 0, slots := 0, locals := 0 } : Room) s m args below meth c s.heap [] 0 0 Q (F0 m 2 ls []) := by
    intro n
    induction n with
    | zero => intro i hi hm hf ls hl; exact absurd hm (by omega)
    | succ n ih =>
      intro i hi hm hf ls hl
      refine lv_iload_n hx hb d_X_isTaken_2 rfl (lv_at hl 3 rfl) ?_
      refine lv_aload_n hx hb d_X_isTaken_3 rfl (lv_at hl 0 rfl) ?_
      refine va_get (D := D) (ci := 3) (v := .int (nI nx)) (C := R_X) (T := F_X) (N := 9) hx hb htb iw_X hown hK hP 15 rfl rfl 0 (by decide) (htb _ mw_124) (fun _ h9 => h9) (congrArg (fun x => some (Value.int x)) hnx) d_X_isTaken_4 ?_
      refine q_icmp_ge (a := i) (b := nx) (tgt := 38) hx hb (by omega) (by omega) d_X_isTaken_7 (by decide) (fun c1 => ?_) (fun c1 => ?_)
      · refine lv_iconst (v := 0) hx hb d_X_isTaken_38 (by decide) ?_
        exact hret _ _ _ (by show 0 = bI (anyN (fun k => decide (g 16 k = x) && decide (g 17 k = y)) nx); rw [show nx = i by omega, hf]; rfl) d_X_isTaken_39
      · refine lv_aload_n hx hb d_X_isTaken_10 rfl (lv_at hl 0 rfl) ?_
        refine va_get (D := D) (ci := 3) (v := .ref (ad 16)) (C := R_X) (T := F_X) (N := 9) hx hb htb iw_X hown hK hP 15 rfl rfl 1 (by decide) (htb _ mw_126) (fun _ h9 => h9) rfl d_X_isTaken_11 ?_
        refine lv_iload_n hx hb d_X_isTaken_14 rfl (lv_at hl 3 rfl) ?_
        refine q_iald hx hb hK hP 16 12 rfl rfl i (by omega) (by decide) d_X_isTaken_15 ?_
        refine lv_iload_n hx hb d_X_isTaken_16 rfl (lv_at hl 1 rfl) ?_
        refine lv_icmp_ne (tgt := 32) hx hb d_X_isTaken_17 (by decide) (fun c2 => ?_) (fun c2 => ?_)
        · refine lv_iinc (v := (nI (i + 1))) (lv' := [(3, .int (nI (i + 1))), (0, .ref (ad 15)), (1, .int x), (2, .int y)]) hx hb d_X_isTaken_32 hl (k := 3) rfl (q_inc _) (by decide) rfl (fun ls hl => ?_)
          refine lv_goto (tgt := 2) hx hb d_X_isTaken_35 (by decide) ?_
          exact ih (i + 1) (by omega) (by omega) (by simp [anyN, hf, c1, c2]) _ (lv_sub hl [1, 2, 3, 0] rfl)
        · refine lv_aload_n hx hb d_X_isTaken_20 rfl (lv_at hl 0 rfl) ?_
          refine va_get (D := D) (ci := 3) (v := .ref (ad 17)) (C := R_X) (T := F_X) (N := 9) hx hb htb iw_X hown hK hP 15 rfl rfl 2 (by decide) (htb _ mw_128) (fun _ h9 => h9) rfl d_X_isTaken_21 ?_
          refine lv_iload_n hx hb d_X_isTaken_24 rfl (lv_at hl 3 rfl) ?_
          refine q_iald hx hb hK hP 17 13 rfl rfl i (by omega) (by decide) d_X_isTaken_25 ?_
          refine lv_iload_n hx hb d_X_isTaken_26 rfl (lv_at hl 2 rfl) ?_
          refine lv_icmp_ne (tgt := 32) hx hb d_X_isTaken_27 (by decide) (fun c3 => ?_) (fun c3 => ?_)
          · refine lv_iinc (v := (nI (i + 1))) (lv' := [(3, .int (nI (i + 1))), (0, .ref (ad 15)), (1, .int x), (2, .int y)]) hx hb d_X_isTaken_32 hl (k := 3) rfl (q_inc _) (by decide) rfl (fun ls hl => ?_)
            refine lv_goto (tgt := 2) hx hb d_X_isTaken_35 (by decide) ?_
            exact ih (i + 1) (by omega) (by omega) (by simp [anyN, hf, c1, c2, c3]) _ (lv_sub hl [1, 2, 3, 0] rfl)
          · refine lv_iconst (v := 1) hx hb d_X_isTaken_30 (by decide) ?_
            exact hret _ _ _ (by show 1 = bI (anyN (fun k => decide (g 16 k = x) && decide (g 17 k = y)) nx); rw [anyN_hit (i := i) (by simp [c1, c2, c3]) (by omega)]; rfl) d_X_isTaken_31
  exact lp2 (nx + 1) 0 (Nat.zero_le _) (by omega) rfl _ (lv_sub hl [1, 2, 3, 0] rfl)
set_option maxHeartbeats 4000000 in
set_option maxRecDepth 100000 in
theorem c_X_add (l : Launch) (D : va_G) (ad : Nat → Nat) (kd : Nat → ClassId) (g : Nat → Nat → Int32) (z : Nat → Int64) (v : Nat → Int32) (nx : Nat) (hnx : v 4 = nI nx) (hx6 : nx ≤ 60) (hlt : nx < 60) (a1 a2 a3 : Int32) : WRi l y_X_add (.code y_X_add b_X_add 5 (some .int) :: TB) ({ frames := 0, cells := 0, slots := 0, locals := 0 } : Room) [.ref (ad 15), .int a1, .int a2, .int a3] D classes (wA ad kd g z v) (wA ad kd (addX g nx a1 a2 a3) (vp_updL z nx 0) (upd v 4 (nI nx + 1))) (tA kd) (nI nx) := by
  refine wr_of (by decide +kernel) (rfl) (Nat.le_of_ble_eq_true rfl) ?_
  intro p e s m args below meth c Q ls A hx hb hml htb hown hP hK hD hS hA hl hret
  have hl : lv_has ls 5 [(0, .ref (ad 15)), (1, .int a1), (2, .int a2), (3, .int a3)] := hl
  refine lv_aload_n hx hb d_X_add_0 rfl (lv_at hl 0 rfl) ?_
  refine va_get (D := D) (ci := 3) (v := .int (nI nx)) (C := R_X) (T := F_X) (N := 9) hx hb htb iw_X hown hK hP 15 rfl rfl 0 (by decide) (htb _ mw_124) (fun _ h9 => h9) (congrArg (fun x => some (Value.int x)) hnx) d_X_add_1 ?_
  refine lv_istore (lv' := [(4, .int (nI nx)), (0, .ref (ad 15)), (1, .int a1), (2, .int a2), (3, .int a3)]) hx hb d_X_add_4 hl (by decide) rfl (fun ls hl => ?_)
  refine lv_aload_n hx hb d_X_add_6 rfl (lv_at hl 1 rfl) ?_
  refine va_get (D := D) (ci := 3) (v := .ref (ad 16)) (C := R_X) (T := F_X) (N := 9) hx hb htb iw_X hown hK hP 15 rfl rfl 1 (by decide) (htb _ mw_126) (fun _ h9 => h9) rfl d_X_add_7 ?_
  refine lv_iload hx hb d_X_add_10 (lv_at hl 0 rfl) ?_
  refine lv_iload_n hx hb d_X_add_12 rfl (lv_at hl 2 rfl) ?_
  refine q_iast hx hb hK hP hD hS 16 12 rfl rfl nx (x := a1) (by omega) (by decide) d_X_add_13 (fun H locs hP hD hS => ?_)
  have hP : va_P D classes (wA ad kd (up g 16 nx a1) z v) H := hP
  have hD : va_D A (wA ad kd (up g 16 nx a1) z v) := hD
  refine lv_aload_n hx hb d_X_add_14 rfl (lv_at hl 1 rfl) ?_
  refine va_get (D := D) (ci := 3) (v := .ref (ad 17)) (C := R_X) (T := F_X) (N := 9) hx hb htb iw_X hown hK hP 15 rfl rfl 2 (by decide) (htb _ mw_128) (fun _ h9 => h9) rfl d_X_add_15 ?_
  refine lv_iload hx hb d_X_add_18 (lv_at hl 0 rfl) ?_
  refine lv_iload_n hx hb d_X_add_20 rfl (lv_at hl 3 rfl) ?_
  refine q_iast hx hb hK hP hD hS 17 13 rfl rfl nx (x := a2) (by omega) (by decide) d_X_add_21 (fun H locs hP hD hS => ?_)
  have hP : va_P D classes (wA ad kd (up (up g 16 nx a1) 17 nx a2) z v) H := hP
  have hD : va_D A (wA ad kd (up (up g 16 nx a1) 17 nx a2) z v) := hD
  refine lv_aload_n hx hb d_X_add_22 rfl (lv_at hl 1 rfl) ?_
  refine va_get (D := D) (ci := 3) (v := .ref (ad 18)) (C := R_X) (T := F_X) (N := 9) hx hb htb iw_X hown hK hP 15 rfl rfl 3 (by decide) (htb _ mw_130) (fun _ h9 => h9) rfl d_X_add_23 ?_
  refine lv_iload hx hb d_X_add_26 (lv_at hl 0 rfl) ?_
  refine lv_iload_n hx hb d_X_add_28 rfl (lv_at hl 4 rfl) ?_
  refine q_iast hx hb hK hP hD hS 18 14 rfl rfl nx (x := a3) (by omega) (by decide) d_X_add_29 (fun H locs hP hD hS => ?_)
  have hP : va_P D classes (wA ad kd (up (up (up g 16 nx a1) 17 nx a2) 18 nx a3) z v) H := hP
  have hD : va_D A (wA ad kd (up (up (up g 16 nx a1) 17 nx a2) 18 nx a3) z v) := hD
  refine lv_aload_n hx hb d_X_add_30 rfl (lv_at hl 1 rfl) ?_
  refine va_get (D := D) (ci := 3) (v := .ref (ad 19)) (C := R_X) (T := F_X) (N := 9) hx hb htb iw_X hown hK hP 15 rfl rfl 4 (by decide) (htb _ mw_132) (fun _ h9 => h9) rfl d_X_add_31 ?_
  refine lv_iload hx hb d_X_add_34 (lv_at hl 0 rfl) ?_
  refine lv_iconst (v := (-1)) hx hb d_X_add_36 (by decide) ?_
  refine q_iast hx hb hK hP hD hS 19 15 rfl rfl nx (x := (-1)) (by omega) (by decide) d_X_add_37 (fun H locs hP hD hS => ?_)
  have hP : va_P D classes (wA ad kd (up (up (up (up g 16 nx a1) 17 nx a2) 18 nx a3) 19 nx (-1)) z v) H := hP
  have hD : va_D A (wA ad kd (up (up (up (up g 16 nx a1) 17 nx a2) 18 nx a3) 19 nx (-1)) z v) := hD
  refine lv_aload_n hx hb d_X_add_38 rfl (lv_at hl 1 rfl) ?_
  refine va_get (D := D) (ci := 3) (v := .ref (ad 20)) (C := R_X) (T := F_X) (N := 9) hx hb htb iw_X hown hK hP 15 rfl rfl 5 (by decide) (htb _ mw_134) (fun _ h9 => h9) rfl d_X_add_39 ?_
  refine lv_iload hx hb d_X_add_42 (lv_at hl 0 rfl) ?_
  refine lv_lconst (v := 0) hx hb d_X_add_44 (by decide) ?_
  refine q_last hx hb hK hP hD hS 20 16 rfl rfl nx (x := 0) (by omega) (by decide) d_X_add_45 (fun H locs hP hD hS => ?_)
  have hP : va_P D classes (wA ad kd (up (up (up (up g 16 nx a1) 17 nx a2) 18 nx a3) 19 nx (-1)) (vp_updL z nx 0) v) H := hP
  have hD : va_D A (wA ad kd (up (up (up (up g 16 nx a1) 17 nx a2) 18 nx a3) 19 nx (-1)) (vp_updL z nx 0) v) := hD
  refine lv_aload_n hx hb d_X_add_46 rfl (lv_at hl 1 rfl) ?_
  refine va_get (D := D) (ci := 3) (v := .ref (ad 21)) (C := R_X) (T := F_X) (N := 9) hx hb htb iw_X hown hK hP 15 rfl rfl 6 (by decide) (htb _ mw_135) (fun _ h9 => h9) rfl d_X_add_47 ?_
  refine lv_iload hx hb d_X_add_50 (lv_at hl 0 rfl) ?_
  refine lv_iconst (v := (-1)) hx hb d_X_add_52 (by decide) ?_
  refine q_iast hx hb hK hP hD hS 21 17 rfl rfl nx (x := (-1)) (by omega) (by decide) d_X_add_53 (fun H locs hP hD hS => ?_)
  have hP : va_P D classes (wA ad kd (up (up (up (up (up g 16 nx a1) 17 nx a2) 18 nx a3) 19 nx (-1)) 21 nx (-1)) (vp_updL z nx 0) v) H := hP
  have hD : va_D A (wA ad kd (up (up (up (up (up g 16 nx a1) 17 nx a2) 18 nx a3) 19 nx (-1)) 21 nx (-1)) (vp_updL z nx 0) v) := hD
  refine lv_aload_n hx hb d_X_add_54 rfl (lv_at hl 1 rfl) ?_
  refine va_get (D := D) (ci := 3) (v := .ref (ad 22)) (C := R_X) (T := F_X) (N := 9) hx hb htb iw_X hown hK hP 15 rfl rfl 7 (by decide) (htb _ mw_137) (fun _ h9 => h9) rfl d_X_add_55 ?_
  refine lv_iload hx hb d_X_add_58 (lv_at hl 0 rfl) ?_
  refine lv_iconst (v := (-1)) hx hb d_X_add_60 (by decide) ?_
  refine q_iast hx hb hK hP hD hS 22 18 rfl rfl nx (x := (-1)) (by omega) (by decide) d_X_add_61 (fun H locs hP hD hS => ?_)
  have hP : va_P D classes (wA ad kd (up (up (up (up (up (up g 16 nx a1) 17 nx a2) 18 nx a3) 19 nx (-1)) 21 nx (-1)) 22 nx (-1)) (vp_updL z nx 0) v) H := hP
  have hD : va_D A (wA ad kd (up (up (up (up (up (up g 16 nx a1) 17 nx a2) 18 nx a3) 19 nx (-1)) 21 nx (-1)) 22 nx (-1)) (vp_updL z nx 0) v) := hD
  refine lv_aload_n hx hb d_X_add_62 rfl (lv_at hl 1 rfl) ?_
  refine va_get (D := D) (ci := 3) (v := .ref (ad 23)) (C := R_X) (T := F_X) (N := 9) hx hb htb iw_X hown hK hP 15 rfl rfl 8 (by decide) (htb _ mw_139) (fun _ h9 => h9) rfl d_X_add_63 ?_
  refine lv_iload hx hb d_X_add_66 (lv_at hl 0 rfl) ?_
  refine lv_iconst (v := (-1)) hx hb d_X_add_68 (by decide) ?_
  refine q_iast hx hb hK hP hD hS 23 19 rfl rfl nx (x := (-1)) (by omega) (by decide) d_X_add_69 (fun H locs hP hD hS => ?_)
  have hP : va_P D classes (wA ad kd (up (up (up (up (up (up (up g 16 nx a1) 17 nx a2) 18 nx a3) 19 nx (-1)) 21 nx (-1)) 22 nx (-1)) 23 nx (-1)) (vp_updL z nx 0) v) H := hP
  have hD : va_D A (wA ad kd (up (up (up (up (up (up (up g 16 nx a1) 17 nx a2) 18 nx a3) 19 nx (-1)) 21 nx (-1)) 22 nx (-1)) 23 nx (-1)) (vp_updL z nx 0) v) := hD
  refine lv_aload_n hx hb d_X_add_70 rfl (lv_at hl 1 rfl) ?_
  refine lv_dup hx hb d_X_add_71 rfl ?_
  refine va_get (D := D) (ci := 3) (v := .int (nI nx)) (C := R_X) (T := F_X) (N := 9) hx hb htb iw_X hown hK hP 15 rfl rfl 0 (by decide) (htb _ mw_124) (fun _ h9 => h9) (congrArg (fun x => some (Value.int x)) hnx) d_X_add_72 ?_
  refine lv_iconst (v := 1) hx hb d_X_add_75 (by decide) ?_
  refine lv_iadd hx hb d_X_add_76 ?_
  refine va_put (D := D) (ci := 3) (v := .int ((nI nx) + 1)) (ty := .int) (C := R_X) (T := F_X) (N := 9) hx hb htb iw_X t_X t_X_ok n_X hown hK hP hD hS 15 rfl rfl 0 (by decide) (htb _ mw_124) (fun _ h9 => h9) rfl (by decide +kernel) rfl rfl (Nat.le_of_ble_eq_true rfl) d_X_add_77 (fun H locs hP hD hS => ?_)
  have hP : va_P D classes (wA ad kd (up (up (up (up (up (up (up g 16 nx a1) 17 nx a2) 18 nx a3) 19 nx (-1)) 21 nx (-1)) 22 nx (-1)) 23 nx (-1)) (vp_updL z nx 0) (upd v 4 ((nI nx) + 1))) H := hP
  have hD : va_D A (wA ad kd (up (up (up (up (up (up (up g 16 nx a1) 17 nx a2) 18 nx a3) 19 nx (-1)) 21 nx (-1)) 22 nx (-1)) 23 nx (-1)) (vp_updL z nx 0) (upd v 4 ((nI nx) + 1))) := hD
  refine lv_iload hx hb d_X_add_80 (lv_at hl 0 rfl) ?_
  exact hret _ _ _ _ _ rfl hP hS d_X_add_82
set_option maxHeartbeats 4000000 in
set_option maxRecDepth 100000 in
theorem c_X_isOn (l : Launch) (D : va_G) (ad : Nat → Nat) (kd : Nat → ClassId) (g : Nat → Nat → Int32) (z : Nat → Int64) (v : Nat → Int32) (k : Nat) (hk : k < 60) (x : Int32) : RD l y_X_isOn (.code y_X_isOn b_X_isOn 3 (some .boolean) :: TB) ({ frames := 0, cells := 0, slots := 0, locals := 0 } : Room) [.ref (ad 15), .int (nI k), .int x] D classes (wA ad kd g z v) (tA kd) (bI (onX z k x)) := by
  refine rd_of (by decide +kernel) (bI_nar _) (Nat.le_of_ble_eq_true rfl) ?_
  intro p e s m args below meth c Q ls hx hb hml htb hown hP hK hl hret
  have hl : lv_has ls 3 [(0, .ref (ad 15)), (1, .int (nI k)), (2, .int x)] := hl
  refine lv_aload_n hx hb d_X_isOn_0 rfl (lv_at hl 0 rfl) ?_
  refine va_get (D := D) (ci := 3) (v := .ref (ad 20)) (C := R_X) (T := F_X) (N := 9) hx hb htb iw_X hown hK hP 15 rfl rfl 5 (by decide) (htb _ mw_134) (fun _ h9 => h9) rfl d_X_isOn_1 ?_
  refine lv_iload_n hx hb d_X_isOn_4 rfl (lv_at hl 1 rfl) ?_
  refine q_lald hx hb hK hP 20 16 rfl rfl k (by omega) (by decide) d_X_isOn_5 ?_
  refine lv_lconst (v := 1) hx hb d_X_isOn_6 (by decide) ?_
  refine lv_iload_n hx hb d_X_isOn_7 rfl (lv_at hl 2 rfl) ?_
  refine lv_lshl (v := ((1 : Int64) <<< ((x).toInt64 &&& 63))) hx hb d_X_isOn_8 rfl ?_
  refine lv_land hx hb d_X_isOn_9 ?_
  refine lv_lconst (v := 0) hx hb d_X_isOn_10 (by decide) ?_
  refine W.lcmp hx hb d_X_isOn_11 ?_
  refine lv_if_eq (tgt := 19) hx hb d_X_isOn_12 (by decide) (fun c1 => ?_) (fun c1 => ?_)
  · refine lv_iconst (v := 0) hx hb d_X_isOn_19 (by decide) ?_
    exact hret _ _ _ (by simp [onX, bitM, bI, c1]) d_X_isOn_20
  · refine lv_iconst (v := 1) hx hb d_X_isOn_15 (by decide) ?_
    refine lv_goto (tgt := 20) hx hb d_X_isOn_16 (by decide) ?_
    exact hret _ _ _ (by simp [onX, bitM, bI, c1]) d_X_isOn_20
set_option maxHeartbeats 4000000 in
set_option maxRecDepth 100000 in
theorem c_X_putOn (l : Launch) (D : va_G) (ad : Nat → Nat) (kd : Nat → ClassId) (g : Nat → Nat → Int32) (z : Nat → Int64) (v : Nat → Int32) (k : Nat) (hk : k < 60) (x : Int32) : WRv l y_X_putOn (.code y_X_putOn b_X_putOn 3 none :: TB) ({ frames := 0, cells := 0, slots := 0, locals := 0 } : Room) [.ref (ad 15), .int (nI k), .int x] D classes (wA ad kd g z v) (wA ad kd g (vp_updL z k (z k ||| bitM x)) v) (tA kd) := by
  refine wv_of (by decide +kernel) (Nat.le_of_ble_eq_true rfl) ?_
  intro p e s m args below meth c Q ls A hx hb hml htb hown hP hK hD hS hA hl hret
  have hl : lv_has ls 3 [(0, .ref (ad 15)), (1, .int (nI k)), (2, .int x)] := hl
  refine lv_aload_n hx hb d_X_putOn_0 rfl (lv_at hl 0 rfl) ?_
  refine va_get (D := D) (ci := 3) (v := .ref (ad 20)) (C := R_X) (T := F_X) (N := 9) hx hb htb iw_X hown hK hP 15 rfl rfl 5 (by decide) (htb _ mw_134) (fun _ h9 => h9) rfl d_X_putOn_1 ?_
  refine lv_iload_n hx hb d_X_putOn_4 rfl (lv_at hl 1 rfl) ?_
  refine lv_dup2_11 hx hb d_X_putOn_5 rfl rfl ?_
  refine q_lald hx hb hK hP 20 16 rfl rfl k (by omega) (by decide) d_X_putOn_6 ?_
  refine lv_lconst (v := 1) hx hb d_X_putOn_7 (by decide) ?_
  refine lv_iload_n hx hb d_X_putOn_8 rfl (lv_at hl 2 rfl) ?_
  refine lv_lshl (v := ((1 : Int64) <<< ((x).toInt64 &&& 63))) hx hb d_X_putOn_9 rfl ?_
  refine lv_lor hx hb d_X_putOn_10 ?_
  refine q_last hx hb hK hP hD hS 20 16 rfl rfl k (x := ((z k) ||| ((1 : Int64) <<< ((x).toInt64 &&& 63)))) (by omega) (by decide) d_X_putOn_11 (fun H locs hP hD hS => ?_)
  have hP : va_P D classes (wA ad kd g (vp_updL z k ((z k) ||| ((1 : Int64) <<< ((x).toInt64 &&& 63)))) v) H := hP
  have hD : va_D A (wA ad kd g (vp_updL z k ((z k) ||| ((1 : Int64) <<< ((x).toInt64 &&& 63)))) v) := hD
  exact hret _ _ _ _ hP hS d_X_putOn_12
set_option maxHeartbeats 4000000 in
set_option maxRecDepth 100000 in
theorem c_X_billsOf (l : Launch) (D : va_G) (ad : Nat → Nat) (kd : Nat → ClassId) (g : Nat → Nat → Int32) (z : Nat → Int64) (v : Nat → Int32) (k : Nat) (hk : k < 60) : RD l y_X_billsOf (.code y_X_billsOf b_X_billsOf 2 (some .int) :: TB) ({ frames := 1, cells := 0, slots := 0, locals := 21 } : Room) [.ref (ad 15), .int (nI k)] D classes (wA ad kd g z v) (tA kd) (nI (popc (z k))) := by
  refine rd_of (by decide +kernel) (rfl) (Nat.le_of_ble_eq_true rfl) ?_
  intro p e s m args below meth c Q ls hx hb hml htb hown hP hK hl hret
  have hl : lv_has ls 2 [(0, .ref (ad 15)), (1, .int (nI k))] := hl
  refine lv_aload_n hx hb d_X_billsOf_0 rfl (lv_at hl 0 rfl) ?_
  refine va_get (D := D) (ci := 3) (v := .ref (ad 20)) (C := R_X) (T := F_X) (N := 9) hx hb htb iw_X hown hK hP 15 rfl rfl 5 (by decide) (htb _ mw_134) (fun _ h9 => h9) rfl d_X_billsOf_1 ?_
  refine lv_iload_n hx hb d_X_billsOf_4 rfl (lv_at hl 1 rfl) ?_
  refine q_lald hx hb hK hP 20 16 rfl rfl k (by omega) (by decide) d_X_billsOf_5 ?_
  refine rdS (As := [.long (z k)]) (rest := []) ⟨hx, hb, hml, hown, htb⟩ (c_J_bitCount l D (wA ad kd g z v) (tA kd) (z k)) (va_cwS 1 htb (gS tb_good mw_197 mw_198 mw_37 mw_199) rfl rfl rfl (by decide +kernel) ⟨Nat.le_of_ble_eq_true rfl, Nat.le_of_ble_eq_true rfl⟩) hP hK rfl hl.1 rfl (lv_room (Nat.le_of_ble_eq_true rfl)) d_X_billsOf_6 ⟨Nat.zero_le _, Nat.zero_le _⟩ ?_
  exact hret _ _ _ (by simp [bI]) d_X_billsOf_9
set_option maxHeartbeats 4000000 in
set_option maxRecDepth 100000 in
theorem c_X_billAt (l : Launch) (D : va_G) (ad : Nat → Nat) (kd : Nat → ClassId) (g : Nat → Nat → Int32) (z : Nat → Int64) (v : Nat → Int32) (k : Nat) (hk : k < 60) (pl : Int32) : RD l y_X_billAt (.code y_X_billAt b_X_billAt 5 (some .int) :: TB) ({ frames := 1, cells := 0, slots := 0, locals := 22 } : Room) [.ref (ad 15), .int (nI k), .int pl] D classes (wA ad kd g z v) (tA kd) (pickN (fun b => onX z k (nI b)) pl 60) := by
  refine rd_of (by decide +kernel) (rfl) (Nat.le_of_ble_eq_true rfl) ?_
  intro p e s m args below meth c Q ls hx hb hml htb hown hP hK hl hret
  have hl : lv_has ls 5 [(0, .ref (ad 15)), (1, .int (nI k)), (2, .int pl)] := hl
  refine lv_iconst (v := 0) hx hb d_X_billAt_0 (by decide) ?_
  refine lv_istore_n (lv' := [(3, .int 0), (0, .ref (ad 15)), (1, .int (nI k)), (2, .int pl)]) hx hb d_X_billAt_1 rfl hl (by decide) rfl (fun ls hl => ?_)
  refine lv_iconst (v := 0) hx hb d_X_billAt_2 (by decide) ?_
  refine lv_istore (lv' := [(4, .int 0), (3, .int 0), (0, .ref (ad 15)), (1, .int (nI k)), (2, .int pl)]) hx hb d_X_billAt_3 hl (by decide) rfl (fun ls hl => ?_)
  have lp5 : ∀ (n : Nat) (i : Nat) (f : Nat), i ≤ 60 → 60 + 1 ≤ i + n → f = cntN (fun b => onX z k (nI b)) i → pickN (fun b => onX z k (nI b)) pl i = -1 → ∀ (ls : Array Slot), lv_has ls 5 [(0, .ref (ad 15)), (1, .int (nI k)), (2, .int pl), (3, .int (nI f)), (4, .int (nI i))] → W p l e ({ frames := 1, cells := 0, slots := 0, locals := 22 } : Room) s m args below meth c s.heap [] 0 0 Q (F0 m 5 ls []) := by
    intro n
    induction n with
    | zero => intro i f hi hm hf hp ls hl; exact absurd hm (by omega)
    | succ n ih =>
      intro i f hi hm hf hp ls hl
      refine lv_iload hx hb d_X_billAt_5 (lv_at hl 4 rfl) ?_
      refine lv_bipush (v := 60) hx hb d_X_billAt_7 (by decide) ?_
      refine q_icmp_ge (a := i) (b := 60) (tgt := 39) hx hb (by omega) (by omega) d_X_billAt_9 (by decide) (fun c1 => ?_) (fun c1 => ?_)
      · refine lv_iconst (v := (-1)) hx hb d_X_billAt_39 (by decide) ?_
        exact hret _ _ _ (by rw [show 60 = i by omega, hp]) d_X_billAt_40
      · refine lv_aload_n hx hb d_X_billAt_12 rfl (lv_at hl 0 rfl) ?_
        refine lv_iload_n hx hb d_X_billAt_13 rfl (lv_at hl 1 rfl) ?_
        refine lv_iload hx hb d_X_billAt_14 (lv_at hl 4 rfl) ?_
        refine rdV (As := [.int (nI k), .int (nI i)]) (rest := []) (b := ad 15) ⟨hx, hb, hml, hown, htb⟩ (c_X_isOn l D ad kd g z v k (by omega) (nI i)) (cwV (C := R_X) 2 htb (gV tb_good mw_533 mw_190 mw_191 mw_30 mw_192) rfl rfl rfl (by decide +kernel) ⟨Nat.le_of_ble_eq_true rfl, Nat.le_of_ble_eq_true rfl⟩) hP hK (va_recv hK hP (ci := 3) (q0 := 15) rfl rfl) rfl hl.1 rfl (lv_room (Nat.le_of_ble_eq_true rfl)) d_X_billAt_16 ⟨Nat.zero_le _, Nat.zero_le _⟩ ?_
        refine lv_if_eq (tgt := 33) hx hb d_X_billAt_19 (by decide) (fun c2 => ?_) (fun c2 => ?_)
        · replace c2 := bI_f c2
          refine lv_iinc (v := (nI (i + 1))) (lv' := [(4, .int (nI (i + 1))), (0, .ref (ad 15)), (1, .int (nI k)), (2, .int pl), (3, .int (nI f))]) hx hb d_X_billAt_33 hl (k := 4) rfl (q_inc _) (by decide) rfl (fun ls hl => ?_)
          refine lv_goto (tgt := 5) hx hb d_X_billAt_36 (by decide) ?_
          exact ih (i + 1) f (by omega) (by omega) (by rw [cntN_f (by simp [c1, c2]), hf]) (pickN_miss hp (by simp [c1, c2])) _ (lv_sub hl [1, 2, 3, 4, 0] rfl)
        · replace c2 := bI_t c2
          refine lv_iload_n hx hb d_X_billAt_22 rfl (lv_at hl 3 rfl) ?_
          refine lv_iload_n hx hb d_X_billAt_23 rfl (lv_at hl 2 rfl) ?_
          refine lv_icmp_ne (tgt := 30) hx hb d_X_billAt_24 (by decide) (fun c3 => ?_) (fun c3 => ?_)
          · refine lv_iinc (v := (nI (f + 1))) (lv' := [(3, .int (nI (f + 1))), (0, .ref (ad 15)), (1, .int (nI k)), (2, .int pl), (4, .int (nI i))]) hx hb d_X_billAt_30 hl (k := 3) rfl (q_inc _) (by decide) rfl (fun ls hl => ?_)
            refine lv_iinc (v := (nI (i + 1))) (lv' := [(4, .int (nI (i + 1))), (3, .int (nI (f + 1))), (0, .ref (ad 15)), (1, .int (nI k)), (2, .int pl)]) hx hb d_X_billAt_33 hl (k := 4) rfl (q_inc _) (by decide) rfl (fun ls hl => ?_)
            refine lv_goto (tgt := 5) hx hb d_X_billAt_36 (by decide) ?_
            exact ih (i + 1) (f + 1) (by omega) (by omega) (by rw [cntN_t (by simp [c1, c2, c3]), hf]) (pickN_pass hp (by rw [← hf]; assumption)) _ (lv_sub hl [2, 3, 4, 1, 0] rfl)
          · refine lv_iload hx hb d_X_billAt_27 (lv_at hl 4 rfl) ?_
            exact hret _ _ _ (by rw [pickN_hit (i := i) (by omega) hp (by simp [c1, c2, c3]) (by rw [← hf]; assumption) (by omega)]) d_X_billAt_29
  exact lp5 (60 + 1) 0 0 (Nat.zero_le _) (by omega) rfl rfl _ (lv_sub hl [2, 3, 4, 1, 0] rfl)
set_option maxHeartbeats 4000000 in
set_option maxRecDepth 100000 in
theorem c_X_hasLanded (l : Launch) (D : va_G) (ad : Nat → Nat) (kd : Nat → ClassId) (g : Nat → Nat → Int32) (z : Nat → Int64) (v : Nat → Int32) (k : Nat) (hk : k < 60) : RD l y_X_hasLanded (.code y_X_hasLanded b_X_hasLanded 2 (some .boolean) :: TB) ({ frames := 0, cells := 0, slots := 0, locals := 0 } : Room) [.ref (ad 15), .int (nI k)] D classes (wA ad kd g z v) (tA kd) (bI (lanX g k)) := by
  refine rd_of (by decide +kernel) (bI_nar _) (Nat.le_of_ble_eq_true rfl) ?_
  intro p e s m args below meth c Q ls hx hb hml htb hown hP hK hl hret
  have hl : lv_has ls 2 [(0, .ref (ad 15)), (1, .int (nI k))] := hl
  refine lv_aload_n hx hb d_X_hasLanded_0 rfl (lv_at hl 0 rfl) ?_
  refine va_get (D := D) (ci := 3) (v := .ref (ad 19)) (C := R_X) (T := F_X) (N := 9) hx hb htb iw_X hown hK hP 15 rfl rfl 4 (by decide) (htb _ mw_132) (fun _ h9 => h9) rfl d_X_hasLanded_1 ?_
  refine lv_iload_n hx hb d_X_hasLanded_4 rfl (lv_at hl 1 rfl) ?_
  refine q_iald hx hb hK hP 19 15 rfl rfl k (by omega) (by decide) d_X_hasLanded_5 ?_
  refine lv_iconst (v := (-1)) hx hb d_X_hasLanded_6 (by decide) ?_
  refine lv_icmp_eq (tgt := 14) hx hb d_X_hasLanded_7 (by decide) (fun c1 => ?_) (fun c1 => ?_)
  · refine lv_iconst (v := 0) hx hb d_X_hasLanded_14 (by decide) ?_
    exact hret _ _ _ (by simp [lanX, bI, c1]) d_X_hasLanded_15
  · refine lv_iconst (v := 1) hx hb d_X_hasLanded_10 (by decide) ?_
    refine lv_goto (tgt := 15) hx hb d_X_hasLanded_11 (by decide) ?_
    exact hret _ _ _ (by simp [lanX, bI, c1]) d_X_hasLanded_15
set_option maxHeartbeats 4000000 in
set_option maxRecDepth 100000 in
theorem c_X_isOrdered (l : Launch) (D : va_G) (ad : Nat → Nat) (kd : Nat → ClassId) (g : Nat → Nat → Int32) (z : Nat → Int64) (v : Nat → Int32) (k : Nat) (hk : k < 60) : RD l y_X_isOrdered (.code y_X_isOrdered b_X_isOrdered 2 (some .boolean) :: TB) ({ frames := 0, cells := 0, slots := 0, locals := 0 } : Room) [.ref (ad 15), .int (nI k)] D classes (wA ad kd g z v) (tA kd) (bI (ordX g k)) := by
  refine rd_of (by decide +kernel) (bI_nar _) (Nat.le_of_ble_eq_true rfl) ?_
  intro p e s m args below meth c Q ls hx hb hml htb hown hP hK hl hret
  have hl : lv_has ls 2 [(0, .ref (ad 15)), (1, .int (nI k))] := hl
  refine lv_aload_n hx hb d_X_isOrdered_0 rfl (lv_at hl 0 rfl) ?_
  refine va_get (D := D) (ci := 3) (v := .ref (ad 21)) (C := R_X) (T := F_X) (N := 9) hx hb htb iw_X hown hK hP 15 rfl rfl 6 (by decide) (htb _ mw_135) (fun _ h9 => h9) rfl d_X_isOrdered_1 ?_
  refine lv_iload_n hx hb d_X_isOrdered_4 rfl (lv_at hl 1 rfl) ?_
  refine q_iald hx hb hK hP 21 17 rfl rfl k (by omega) (by decide) d_X_isOrdered_5 ?_
  refine lv_iconst (v := (-1)) hx hb d_X_isOrdered_6 (by decide) ?_
  refine lv_icmp_eq (tgt := 14) hx hb d_X_isOrdered_7 (by decide) (fun c1 => ?_) (fun c1 => ?_)
  · refine lv_iconst (v := 0) hx hb d_X_isOrdered_14 (by decide) ?_
    exact hret _ _ _ (by simp [ordX, bI, c1]) d_X_isOrdered_15
  · refine lv_iconst (v := 1) hx hb d_X_isOrdered_10 (by decide) ?_
    refine lv_goto (tgt := 15) hx hb d_X_isOrdered_11 (by decide) ?_
    exact hret _ _ _ (by simp [ordX, bI, c1]) d_X_isOrdered_15
set_option maxHeartbeats 4000000 in
set_option maxRecDepth 100000 in
theorem c_X_isWaiting (l : Launch) (D : va_G) (ad : Nat → Nat) (kd : Nat → ClassId) (g : Nat → Nat → Int32) (z : Nat → Int64) (v : Nat → Int32) (k : Nat) (hk : k < 60) : RD l y_X_isWaiting (.code y_X_isWaiting b_X_isWaiting 2 (some .boolean) :: TB) ({ frames := 1, cells := 0, slots := 0, locals := 21 } : Room) [.ref (ad 15), .int (nI k)] D classes (wA ad kd g z v) (tA kd) (bI (waiX g z k)) := by
  refine rd_of (by decide +kernel) (bI_nar _) (Nat.le_of_ble_eq_true rfl) ?_
  intro p e s m args below meth c Q ls hx hb hml htb hown hP hK hl hret
  have hl : lv_has ls 2 [(0, .ref (ad 15)), (1, .int (nI k))] := hl
  refine lv_aload_n hx hb d_X_isWaiting_0 rfl (lv_at hl 0 rfl) ?_
  refine lv_iload_n hx hb d_X_isWaiting_1 rfl (lv_at hl 1 rfl) ?_
  refine rdV (As := [.int (nI k)]) (rest := []) (b := ad 15) ⟨hx, hb, hml, hown, htb⟩ (c_X_hasLanded l D ad kd g z v k (by omega)) (cwV (C := R_X) 1 htb (gV tb_good mw_251 mw_216 mw_217 mw_30 mw_218) rfl rfl rfl (by decide +kernel) ⟨Nat.le_of_ble_eq_true rfl, Nat.le_of_ble_eq_true rfl⟩) hP hK (va_recv hK hP (ci := 3) (q0 := 15) rfl rfl) rfl hl.1 rfl (lv_room (Nat.le_of_ble_eq_true rfl)) d_X_isWaiting_2 ⟨Nat.zero_le _, Nat.zero_le _⟩ ?_
  refine lv_if_eq (tgt := 23) hx hb d_X_isWaiting_5 (by decide) (fun c1 => ?_) (fun c1 => ?_)
  · replace c1 := bI_f c1
    refine lv_iconst (v := 0) hx hb d_X_isWaiting_23 (by decide) ?_
    exact hret _ _ _ (by simp [waiX, bI, c1]) d_X_isWaiting_24
  · replace c1 := bI_t c1
    refine lv_aload_n hx hb d_X_isWaiting_8 rfl (lv_at hl 0 rfl) ?_
    refine va_get (D := D) (ci := 3) (v := .ref (ad 20)) (C := R_X) (T := F_X) (N := 9) hx hb htb iw_X hown hK hP 15 rfl rfl 5 (by decide) (htb _ mw_134) (fun _ h9 => h9) rfl d_X_isWaiting_9 ?_
    refine lv_iload_n hx hb d_X_isWaiting_12 rfl (lv_at hl 1 rfl) ?_
    refine q_lald hx hb hK hP 20 16 rfl rfl k (by omega) (by decide) d_X_isWaiting_13 ?_
    refine lv_lconst (v := 0) hx hb d_X_isWaiting_14 (by decide) ?_
    refine W.lcmp hx hb d_X_isWaiting_15 ?_
    refine lv_if_ne (tgt := 23) hx hb d_X_isWaiting_16 (by decide) (fun c2 => ?_) (fun c2 => ?_)
    · refine lv_iconst (v := 0) hx hb d_X_isWaiting_23 (by decide) ?_
      exact hret _ _ _ (by simp [waiX, bI, c1, c2]) d_X_isWaiting_24
    · refine lv_iconst (v := 1) hx hb d_X_isWaiting_19 (by decide) ?_
      refine lv_goto (tgt := 24) hx hb d_X_isWaiting_20 (by decide) ?_
      exact hret _ _ _ (by simp [waiX, bI, c1, c2]) d_X_isWaiting_24
set_option maxHeartbeats 4000000 in
set_option maxRecDepth 100000 in
theorem c_X_boxesOn (l : Launch) (D : va_G) (ad : Nat → Nat) (kd : Nat → ClassId) (g : Nat → Nat → Int32) (z : Nat → Int64) (v : Nat → Int32) (nx : Nat) (hnx : v 4 = nI nx) (hx6 : nx ≤ 60) (x : Int32) : RD l y_X_boxesOn (.code y_X_boxesOn b_X_boxesOn 4 (some .int) :: TB) ({ frames := 1, cells := 0, slots := 0, locals := 22 } : Room) [.ref (ad 15), .int x] D classes (wA ad kd g z v) (tA kd) (nI (cntN (fun k => onX z k x) nx)) := by
  refine rd_of (by decide +kernel) (rfl) (Nat.le_of_ble_eq_true rfl) ?_
  intro p e s m args below meth c Q ls hx hb hml htb hown hP hK hl hret
  have hl : lv_has ls 4 [(0, .ref (ad 15)), (1, .int x)] := hl
  refine lv_iconst (v := 0) hx hb d_X_boxesOn_0 (by decide) ?_
  refine lv_istore_n (lv' := [(2, .int 0), (0, .ref (ad 15)), (1, .int x)]) hx hb d_X_boxesOn_1 rfl hl (by decide) rfl (fun ls hl => ?_)
  refine lv_iconst (v := 0) hx hb d_X_boxesOn_2 (by decide) ?_
  refine lv_istore_n (lv' := [(3, .int 0), (2, .int 0), (0, .ref (ad 15)), (1, .int x)]) hx hb d_X_boxesOn_3 rfl hl (by decide) rfl (fun ls hl => ?_)
  have lp4 : ∀ (n : Nat) (i : Nat) (f : Nat), i ≤ nx → nx + 1 ≤ i + n → f = cntN (fun k => onX z k x) i → ∀ (ls : Array Slot), lv_has ls 4 [(0, .ref (ad 15)), (1, .int x), (2, .int (nI f)), (3, .int (nI i))] → W p l e ({ frames := 1, cells := 0, slots := 0, locals := 22 } : Room) s m args below meth c s.heap [] 0 0 Q (F0 m 4 ls []) := by
    intro n
    induction n with
    | zero => intro i f hi hm hf ls hl; exact absurd hm (by omega)
    | succ n ih =>
      intro i f hi hm hf ls hl
      refine lv_iload_n hx hb d_X_boxesOn_4 rfl (lv_at hl 3 rfl) ?_
      refine lv_aload_n hx hb d_X_boxesOn_5 rfl (lv_at hl 0 rfl) ?_
      refine va_get (D := D) (ci := 3) (v := .int (nI nx)) (C := R_X) (T := F_X) (N := 9) hx hb htb iw_X hown hK hP 15 rfl rfl 0 (by decide) (htb _ mw_124) (fun _ h9 => h9) (congrArg (fun x => some (Value.int x)) hnx) d_X_boxesOn_6 ?_
      refine q_icmp_ge (a := i) (b := nx) (tgt := 30) hx hb (by omega) (by omega) d_X_boxesOn_9 (by decide) (fun c1 => ?_) (fun c1 => ?_)
      · refine lv_iload_n hx hb d_X_boxesOn_30 rfl (lv_at hl 2 rfl) ?_
        exact hret _ _ _ (by rw [show nx = i by omega, hf]) d_X_boxesOn_31
      · refine lv_aload_n hx hb d_X_boxesOn_12 rfl (lv_at hl 0 rfl) ?_
        refine lv_iload_n hx hb d_X_boxesOn_13 rfl (lv_at hl 3 rfl) ?_
        refine lv_iload_n hx hb d_X_boxesOn_14 rfl (lv_at hl 1 rfl) ?_
        refine rdV (As := [.int (nI i), .int x]) (rest := []) (b := ad 15) ⟨hx, hb, hml, hown, htb⟩ (c_X_isOn l D ad kd g z v i (by omega) x) (cwV (C := R_X) 2 htb (gV tb_good mw_533 mw_190 mw_191 mw_30 mw_192) rfl rfl rfl (by decide +kernel) ⟨Nat.le_of_ble_eq_true rfl, Nat.le_of_ble_eq_true rfl⟩) hP hK (va_recv hK hP (ci := 3) (q0 := 15) rfl rfl) rfl hl.1 rfl (lv_room (Nat.le_of_ble_eq_true rfl)) d_X_boxesOn_15 ⟨Nat.zero_le _, Nat.zero_le _⟩ ?_
        refine lv_if_eq (tgt := 24) hx hb d_X_boxesOn_18 (by decide) (fun c2 => ?_) (fun c2 => ?_)
        · replace c2 := bI_f c2
          refine lv_iinc (v := (nI (i + 1))) (lv' := [(3, .int (nI (i + 1))), (0, .ref (ad 15)), (1, .int x), (2, .int (nI f))]) hx hb d_X_boxesOn_24 hl (k := 3) rfl (q_inc _) (by decide) rfl (fun ls hl => ?_)
          refine lv_goto (tgt := 4) hx hb d_X_boxesOn_27 (by decide) ?_
          exact ih (i + 1) f (by omega) (by omega) (by rw [cntN_f (by simp [c1, c2]), hf]) _ (lv_sub hl [1, 2, 3, 0] rfl)
        · replace c2 := bI_t c2
          refine lv_iinc (v := (nI (f + 1))) (lv' := [(2, .int (nI (f + 1))), (0, .ref (ad 15)), (1, .int x), (3, .int (nI i))]) hx hb d_X_boxesOn_21 hl (k := 2) rfl (q_inc _) (by decide) rfl (fun ls hl => ?_)
          refine lv_iinc (v := (nI (i + 1))) (lv' := [(3, .int (nI (i + 1))), (2, .int (nI (f + 1))), (0, .ref (ad 15)), (1, .int x)]) hx hb d_X_boxesOn_24 hl (k := 3) rfl (q_inc _) (by decide) rfl (fun ls hl => ?_)
          refine lv_goto (tgt := 4) hx hb d_X_boxesOn_27 (by decide) ?_
          exact ih (i + 1) (f + 1) (by omega) (by omega) (by rw [cntN_t (by simp [c1, c2]), hf]) _ (lv_sub hl [2, 3, 1, 0] rfl)
  exact lp4 (nx + 1) 0 0 (Nat.zero_le _) (by omega) rfl _ (lv_sub hl [2, 3, 1, 0] rfl)
set_option maxHeartbeats 4000000 in
set_option maxRecDepth 100000 in
theorem c_X_landedOnes (l : Launch) (D : va_G) (ad : Nat → Nat) (kd : Nat → ClassId) (g : Nat → Nat → Int32) (z : Nat → Int64) (v : Nat → Int32) (nx : Nat) (hnx : v 4 = nI nx) (hx6 : nx ≤ 60) : RD l y_X_landedOnes (.code y_X_landedOnes b_X_landedOnes 3 (some .int) :: TB) ({ frames := 1, cells := 0, slots := 0, locals := 21 } : Room) [.ref (ad 15)] D classes (wA ad kd g z v) (tA kd) (nI (cntN (fun k => lanX g k) nx)) := by
  refine rd_of (by decide +kernel) (rfl) (Nat.le_of_ble_eq_true rfl) ?_
  intro p e s m args below meth c Q ls hx hb hml htb hown hP hK hl hret
  have hl : lv_has ls 3 [(0, .ref (ad 15))] := hl
  refine lv_iconst (v := 0) hx hb d_X_landedOnes_0 (by decide) ?_
  refine lv_istore_n (lv' := [(1, .int 0), (0, .ref (ad 15))]) hx hb d_X_landedOnes_1 rfl hl (by decide) rfl (fun ls hl => ?_)
  refine lv_iconst (v := 0) hx hb d_X_landedOnes_2 (by decide) ?_
  refine lv_istore_n (lv' := [(2, .int 0), (1, .int 0), (0, .ref (ad 15))]) hx hb d_X_landedOnes_3 rfl hl (by decide) rfl (fun ls hl => ?_)
  have lp4 : ∀ (n : Nat) (i : Nat) (f : Nat), i ≤ nx → nx + 1 ≤ i + n → f = cntN (fun k => lanX g k) i → ∀ (ls : Array Slot), lv_has ls 3 [(0, .ref (ad 15)), (1, .int (nI f)), (2, .int (nI i))] → W p l e ({ frames := 1, cells := 0, slots := 0, locals := 21 } : Room) s m args below meth c s.heap [] 0 0 Q (F0 m 4 ls []) := by
    intro n
    induction n with
    | zero => intro i f hi hm hf ls hl; exact absurd hm (by omega)
    | succ n ih =>
      intro i f hi hm hf ls hl
      refine lv_iload_n hx hb d_X_landedOnes_4 rfl (lv_at hl 2 rfl) ?_
      refine lv_aload_n hx hb d_X_landedOnes_5 rfl (lv_at hl 0 rfl) ?_
      refine va_get (D := D) (ci := 3) (v := .int (nI nx)) (C := R_X) (T := F_X) (N := 9) hx hb htb iw_X hown hK hP 15 rfl rfl 0 (by decide) (htb _ mw_124) (fun _ h9 => h9) (congrArg (fun x => some (Value.int x)) hnx) d_X_landedOnes_6 ?_
      refine q_icmp_ge (a := i) (b := nx) (tgt := 29) hx hb (by omega) (by omega) d_X_landedOnes_9 (by decide) (fun c1 => ?_) (fun c1 => ?_)
      · refine lv_iload_n hx hb d_X_landedOnes_29 rfl (lv_at hl 1 rfl) ?_
        exact hret _ _ _ (by rw [show nx = i by omega, hf]) d_X_landedOnes_30
      · refine lv_aload_n hx hb d_X_landedOnes_12 rfl (lv_at hl 0 rfl) ?_
        refine lv_iload_n hx hb d_X_landedOnes_13 rfl (lv_at hl 2 rfl) ?_
        refine rdV (As := [.int (nI i)]) (rest := []) (b := ad 15) ⟨hx, hb, hml, hown, htb⟩ (c_X_hasLanded l D ad kd g z v i (by omega)) (cwV (C := R_X) 1 htb (gV tb_good mw_251 mw_216 mw_217 mw_30 mw_218) rfl rfl rfl (by decide +kernel) ⟨Nat.le_of_ble_eq_true rfl, Nat.le_of_ble_eq_true rfl⟩) hP hK (va_recv hK hP (ci := 3) (q0 := 15) rfl rfl) rfl hl.1 rfl (lv_room (Nat.le_of_ble_eq_true rfl)) d_X_landedOnes_14 ⟨Nat.zero_le _, Nat.zero_le _⟩ ?_
        refine lv_if_eq (tgt := 23) hx hb d_X_landedOnes_17 (by decide) (fun c2 => ?_) (fun c2 => ?_)
        · replace c2 := bI_f c2
          refine lv_iinc (v := (nI (i + 1))) (lv' := [(2, .int (nI (i + 1))), (0, .ref (ad 15)), (1, .int (nI f))]) hx hb d_X_landedOnes_23 hl (k := 2) rfl (q_inc _) (by decide) rfl (fun ls hl => ?_)
          refine lv_goto (tgt := 4) hx hb d_X_landedOnes_26 (by decide) ?_
          exact ih (i + 1) f (by omega) (by omega) (by rw [cntN_f (by simp [c1, c2]), hf]) _ (lv_sub hl [1, 2, 0] rfl)
        · replace c2 := bI_t c2
          refine lv_iinc (v := (nI (f + 1))) (lv' := [(1, .int (nI (f + 1))), (0, .ref (ad 15)), (2, .int (nI i))]) hx hb d_X_landedOnes_20 hl (k := 1) rfl (q_inc _) (by decide) rfl (fun ls hl => ?_)
          refine lv_iinc (v := (nI (i + 1))) (lv' := [(2, .int (nI (i + 1))), (1, .int (nI (f + 1))), (0, .ref (ad 15))]) hx hb d_X_landedOnes_23 hl (k := 2) rfl (q_inc _) (by decide) rfl (fun ls hl => ?_)
          refine lv_goto (tgt := 4) hx hb d_X_landedOnes_26 (by decide) ?_
          exact ih (i + 1) (f + 1) (by omega) (by omega) (by rw [cntN_t (by simp [c1, c2]), hf]) _ (lv_sub hl [2, 1, 0] rfl)
  exact lp4 (nx + 1) 0 0 (Nat.zero_le _) (by omega) rfl _ (lv_sub hl [2, 1, 0] rfl)
set_option maxHeartbeats 4000000 in
set_option maxRecDepth 100000 in
theorem c_X_orderedOnes (l : Launch) (D : va_G) (ad : Nat → Nat) (kd : Nat → ClassId) (g : Nat → Nat → Int32) (z : Nat → Int64) (v : Nat → Int32) (nx : Nat) (hnx : v 4 = nI nx) (hx6 : nx ≤ 60) : RD l y_X_orderedOnes (.code y_X_orderedOnes b_X_orderedOnes 3 (some .int) :: TB) ({ frames := 1, cells := 0, slots := 0, locals := 21 } : Room) [.ref (ad 15)] D classes (wA ad kd g z v) (tA kd) (nI (cntN (fun k => ordX g k) nx)) := by
  refine rd_of (by decide +kernel) (rfl) (Nat.le_of_ble_eq_true rfl) ?_
  intro p e s m args below meth c Q ls hx hb hml htb hown hP hK hl hret
  have hl : lv_has ls 3 [(0, .ref (ad 15))] := hl
  refine lv_iconst (v := 0) hx hb d_X_orderedOnes_0 (by decide) ?_
  refine lv_istore_n (lv' := [(1, .int 0), (0, .ref (ad 15))]) hx hb d_X_orderedOnes_1 rfl hl (by decide) rfl (fun ls hl => ?_)
  refine lv_iconst (v := 0) hx hb d_X_orderedOnes_2 (by decide) ?_
  refine lv_istore_n (lv' := [(2, .int 0), (1, .int 0), (0, .ref (ad 15))]) hx hb d_X_orderedOnes_3 rfl hl (by decide) rfl (fun ls hl => ?_)
  have lp4 : ∀ (n : Nat) (i : Nat) (f : Nat), i ≤ nx → nx + 1 ≤ i + n → f = cntN (fun k => ordX g k) i → ∀ (ls : Array Slot), lv_has ls 3 [(0, .ref (ad 15)), (1, .int (nI f)), (2, .int (nI i))] → W p l e ({ frames := 1, cells := 0, slots := 0, locals := 21 } : Room) s m args below meth c s.heap [] 0 0 Q (F0 m 4 ls []) := by
    intro n
    induction n with
    | zero => intro i f hi hm hf ls hl; exact absurd hm (by omega)
    | succ n ih =>
      intro i f hi hm hf ls hl
      refine lv_iload_n hx hb d_X_orderedOnes_4 rfl (lv_at hl 2 rfl) ?_
      refine lv_aload_n hx hb d_X_orderedOnes_5 rfl (lv_at hl 0 rfl) ?_
      refine va_get (D := D) (ci := 3) (v := .int (nI nx)) (C := R_X) (T := F_X) (N := 9) hx hb htb iw_X hown hK hP 15 rfl rfl 0 (by decide) (htb _ mw_124) (fun _ h9 => h9) (congrArg (fun x => some (Value.int x)) hnx) d_X_orderedOnes_6 ?_
      refine q_icmp_ge (a := i) (b := nx) (tgt := 29) hx hb (by omega) (by omega) d_X_orderedOnes_9 (by decide) (fun c1 => ?_) (fun c1 => ?_)
      · refine lv_iload_n hx hb d_X_orderedOnes_29 rfl (lv_at hl 1 rfl) ?_
        exact hret _ _ _ (by rw [show nx = i by omega, hf]) d_X_orderedOnes_30
      · refine lv_aload_n hx hb d_X_orderedOnes_12 rfl (lv_at hl 0 rfl) ?_
        refine lv_iload_n hx hb d_X_orderedOnes_13 rfl (lv_at hl 2 rfl) ?_
        refine rdV (As := [.int (nI i)]) (rest := []) (b := ad 15) ⟨hx, hb, hml, hown, htb⟩ (c_X_isOrdered l D ad kd g z v i (by omega)) (cwV (C := R_X) 1 htb (gV tb_good mw_260 mw_204 mw_205 mw_30 mw_206) rfl rfl rfl (by decide +kernel) ⟨Nat.le_of_ble_eq_true rfl, Nat.le_of_ble_eq_true rfl⟩) hP hK (va_recv hK hP (ci := 3) (q0 := 15) rfl rfl) rfl hl.1 rfl (lv_room (Nat.le_of_ble_eq_true rfl)) d_X_orderedOnes_14 ⟨Nat.zero_le _, Nat.zero_le _⟩ ?_
        refine lv_if_eq (tgt := 23) hx hb d_X_orderedOnes_17 (by decide) (fun c2 => ?_) (fun c2 => ?_)
        · replace c2 := bI_f c2
          refine lv_iinc (v := (nI (i + 1))) (lv' := [(2, .int (nI (i + 1))), (0, .ref (ad 15)), (1, .int (nI f))]) hx hb d_X_orderedOnes_23 hl (k := 2) rfl (q_inc _) (by decide) rfl (fun ls hl => ?_)
          refine lv_goto (tgt := 4) hx hb d_X_orderedOnes_26 (by decide) ?_
          exact ih (i + 1) f (by omega) (by omega) (by rw [cntN_f (by simp [c1, c2]), hf]) _ (lv_sub hl [1, 2, 0] rfl)
        · replace c2 := bI_t c2
          refine lv_iinc (v := (nI (f + 1))) (lv' := [(1, .int (nI (f + 1))), (0, .ref (ad 15)), (2, .int (nI i))]) hx hb d_X_orderedOnes_20 hl (k := 1) rfl (q_inc _) (by decide) rfl (fun ls hl => ?_)
          refine lv_iinc (v := (nI (i + 1))) (lv' := [(2, .int (nI (i + 1))), (1, .int (nI (f + 1))), (0, .ref (ad 15))]) hx hb d_X_orderedOnes_23 hl (k := 2) rfl (q_inc _) (by decide) rfl (fun ls hl => ?_)
          refine lv_goto (tgt := 4) hx hb d_X_orderedOnes_26 (by decide) ?_
          exact ih (i + 1) (f + 1) (by omega) (by omega) (by rw [cntN_t (by simp [c1, c2]), hf]) _ (lv_sub hl [2, 1, 0] rfl)
  exact lp4 (nx + 1) 0 0 (Nat.zero_le _) (by omega) rfl _ (lv_sub hl [2, 1, 0] rfl)
set_option maxHeartbeats 4000000 in
set_option maxRecDepth 100000 in
theorem c_X_waitingOnes (l : Launch) (D : va_G) (ad : Nat → Nat) (kd : Nat → ClassId) (g : Nat → Nat → Int32) (z : Nat → Int64) (v : Nat → Int32) (nx : Nat) (hnx : v 4 = nI nx) (hx6 : nx ≤ 60) : RD l y_X_waitingOnes (.code y_X_waitingOnes b_X_waitingOnes 3 (some .int) :: TB) ({ frames := 2, cells := 0, slots := 0, locals := 42 } : Room) [.ref (ad 15)] D classes (wA ad kd g z v) (tA kd) (nI (cntN (fun k => waiX g z k) nx)) := by
  refine rd_of (by decide +kernel) (rfl) (Nat.le_of_ble_eq_true rfl) ?_
  intro p e s m args below meth c Q ls hx hb hml htb hown hP hK hl hret
  have hl : lv_has ls 3 [(0, .ref (ad 15))] := hl
  refine lv_iconst (v := 0) hx hb d_X_waitingOnes_0 (by decide) ?_
  refine lv_istore_n (lv' := [(1, .int 0), (0, .ref (ad 15))]) hx hb d_X_waitingOnes_1 rfl hl (by decide) rfl (fun ls hl => ?_)
  refine lv_iconst (v := 0) hx hb d_X_waitingOnes_2 (by decide) ?_
  refine lv_istore_n (lv' := [(2, .int 0), (1, .int 0), (0, .ref (ad 15))]) hx hb d_X_waitingOnes_3 rfl hl (by decide) rfl (fun ls hl => ?_)
  have lp4 : ∀ (n : Nat) (i : Nat) (f : Nat), i ≤ nx → nx + 1 ≤ i + n → f = cntN (fun k => waiX g z k) i → ∀ (ls : Array Slot), lv_has ls 3 [(0, .ref (ad 15)), (1, .int (nI f)), (2, .int (nI i))] → W p l e ({ frames := 2, cells := 0, slots := 0, locals := 42 } : Room) s m args below meth c s.heap [] 0 0 Q (F0 m 4 ls []) := by
    intro n
    induction n with
    | zero => intro i f hi hm hf ls hl; exact absurd hm (by omega)
    | succ n ih =>
      intro i f hi hm hf ls hl
      refine lv_iload_n hx hb d_X_waitingOnes_4 rfl (lv_at hl 2 rfl) ?_
      refine lv_aload_n hx hb d_X_waitingOnes_5 rfl (lv_at hl 0 rfl) ?_
      refine va_get (D := D) (ci := 3) (v := .int (nI nx)) (C := R_X) (T := F_X) (N := 9) hx hb htb iw_X hown hK hP 15 rfl rfl 0 (by decide) (htb _ mw_124) (fun _ h9 => h9) (congrArg (fun x => some (Value.int x)) hnx) d_X_waitingOnes_6 ?_
      refine q_icmp_ge (a := i) (b := nx) (tgt := 29) hx hb (by omega) (by omega) d_X_waitingOnes_9 (by decide) (fun c1 => ?_) (fun c1 => ?_)
      · refine lv_iload_n hx hb d_X_waitingOnes_29 rfl (lv_at hl 1 rfl) ?_
        exact hret _ _ _ (by rw [show nx = i by omega, hf]) d_X_waitingOnes_30
      · refine lv_aload_n hx hb d_X_waitingOnes_12 rfl (lv_at hl 0 rfl) ?_
        refine lv_iload_n hx hb d_X_waitingOnes_13 rfl (lv_at hl 2 rfl) ?_
        refine rdV (As := [.int (nI i)]) (rest := []) (b := ad 15) ⟨hx, hb, hml, hown, htb⟩ (c_X_isWaiting l D ad kd g z v i (by omega)) (cwV (C := R_X) 1 htb (gV tb_good mw_269 mw_248 mw_249 mw_30 mw_250) rfl rfl rfl (by decide +kernel) ⟨Nat.le_of_ble_eq_true rfl, Nat.le_of_ble_eq_true rfl⟩) hP hK (va_recv hK hP (ci := 3) (q0 := 15) rfl rfl) rfl hl.1 rfl (lv_room (Nat.le_of_ble_eq_true rfl)) d_X_waitingOnes_14 ⟨Nat.zero_le _, Nat.zero_le _⟩ ?_
        refine lv_if_eq (tgt := 23) hx hb d_X_waitingOnes_17 (by decide) (fun c2 => ?_) (fun c2 => ?_)
        · replace c2 := bI_f c2
          refine lv_iinc (v := (nI (i + 1))) (lv' := [(2, .int (nI (i + 1))), (0, .ref (ad 15)), (1, .int (nI f))]) hx hb d_X_waitingOnes_23 hl (k := 2) rfl (q_inc _) (by decide) rfl (fun ls hl => ?_)
          refine lv_goto (tgt := 4) hx hb d_X_waitingOnes_26 (by decide) ?_
          exact ih (i + 1) f (by omega) (by omega) (by rw [cntN_f (by simp [c1, c2]), hf]) _ (lv_sub hl [1, 2, 0] rfl)
        · replace c2 := bI_t c2
          refine lv_iinc (v := (nI (f + 1))) (lv' := [(1, .int (nI (f + 1))), (0, .ref (ad 15)), (2, .int (nI i))]) hx hb d_X_waitingOnes_20 hl (k := 1) rfl (q_inc _) (by decide) rfl (fun ls hl => ?_)
          refine lv_iinc (v := (nI (i + 1))) (lv' := [(2, .int (nI (i + 1))), (1, .int (nI (f + 1))), (0, .ref (ad 15))]) hx hb d_X_waitingOnes_23 hl (k := 2) rfl (q_inc _) (by decide) rfl (fun ls hl => ?_)
          refine lv_goto (tgt := 4) hx hb d_X_waitingOnes_26 (by decide) ?_
          exact ih (i + 1) (f + 1) (by omega) (by omega) (by rw [cntN_t (by simp [c1, c2]), hf]) _ (lv_sub hl [2, 1, 0] rfl)
  exact lp4 (nx + 1) 0 0 (Nat.zero_le _) (by omega) rfl _ (lv_sub hl [2, 1, 0] rfl)
set_option maxHeartbeats 4000000 in
set_option maxRecDepth 100000 in
theorem c_X_share (l : Launch) (D : va_G) (ad : Nat → Nat) (kd : Nat → ClassId) (g : Nat → Nat → Int32) (z : Nat → Int64) (v : Nat → Int32) (k : Nat) (hk : k < 60) (x : Int32) : RD l y_X_share (.code y_X_share b_X_share 5 (some .int) :: TB) ({ frames := 2, cells := 0, slots := 0, locals := 42 } : Room) [.ref (ad 15), .int (nI k), .int x] D classes (wA ad kd g z v) (tA kd) (shaX g z k x) := by
  refine rd_of (by decide +kernel) (rfl) (Nat.le_of_ble_eq_true rfl) ?_
  intro p e s m args below meth c Q ls hx hb hml htb hown hP hK hl hret
  have hl : lv_has ls 5 [(0, .ref (ad 15)), (1, .int (nI k)), (2, .int x)] := hl
  refine lv_aload_n hx hb d_X_share_0 rfl (lv_at hl 0 rfl) ?_
  refine lv_iload_n hx hb d_X_share_1 rfl (lv_at hl 1 rfl) ?_
  refine rdV (As := [.int (nI k)]) (rest := []) (b := ad 15) ⟨hx, hb, hml, hown, htb⟩ (c_X_billsOf l D ad kd g z v k (by omega)) (cwV (C := R_X) 1 htb (gV tb_good mw_538 mw_194 mw_195 mw_30 mw_196) rfl rfl rfl (by decide +kernel) ⟨Nat.le_of_ble_eq_true rfl, Nat.le_of_ble_eq_true rfl⟩) hP hK (va_recv hK hP (ci := 3) (q0 := 15) rfl rfl) rfl hl.1 rfl (lv_room (Nat.le_of_ble_eq_true rfl)) d_X_share_2 ⟨Nat.zero_le _, Nat.zero_le _⟩ ?_
  refine lv_istore_n (lv' := [(3, .int (nI (popc (z k)))), (0, .ref (ad 15)), (1, .int (nI k)), (2, .int x)]) hx hb d_X_share_5 rfl hl (by decide) rfl (fun ls hl => ?_)
  refine lv_iload_n hx hb d_X_share_6 rfl (lv_at hl 0 rfl) ?_
  refine lv_if_ne (tgt := 12) hx hb d_X_share_7 (by decide) (fun c1 => ?_) (fun c1 => ?_)
  · refine lv_aload_n hx hb d_X_share_12 rfl (lv_at hl 1 rfl) ?_
    refine va_get (D := D) (ci := 3) (v := .ref (ad 20)) (C := R_X) (T := F_X) (N := 9) hx hb htb iw_X hown hK hP 15 rfl rfl 5 (by decide) (htb _ mw_134) (fun _ h9 => h9) rfl d_X_share_13 ?_
    refine lv_iload_n hx hb d_X_share_16 rfl (lv_at hl 2 rfl) ?_
    refine q_lald hx hb hK hP 20 16 rfl rfl k (by omega) (by decide) d_X_share_17 ?_
    refine lv_lconst (v := 1) hx hb d_X_share_18 (by decide) ?_
    refine lv_iload_n hx hb d_X_share_19 rfl (lv_at hl 3 rfl) ?_
    refine lv_lshl (v := ((1 : Int64) <<< ((x).toInt64 &&& 63))) hx hb d_X_share_20 rfl ?_
    refine lv_lconst (v := 1) hx hb d_X_share_21 (by decide) ?_
    refine lv_lsub hx hb d_X_share_22 ?_
    refine lv_land hx hb d_X_share_23 ?_
    refine rdS (As := [.long ((z k) &&& (((1 : Int64) <<< ((x).toInt64 &&& 63)) - 1))]) (rest := []) ⟨hx, hb, hml, hown, htb⟩ (c_J_bitCount l D (wA ad kd g z v) (tA kd) ((z k) &&& (((1 : Int64) <<< ((x).toInt64 &&& 63)) - 1))) (va_cwS 1 htb (gS tb_good mw_197 mw_198 mw_37 mw_199) rfl rfl rfl (by decide +kernel) ⟨Nat.le_of_ble_eq_true rfl, Nat.le_of_ble_eq_true rfl⟩) hP hK rfl hl.1 rfl (lv_room (Nat.le_of_ble_eq_true rfl)) d_X_share_24 ⟨Nat.zero_le _, Nat.zero_le _⟩ ?_
    refine lv_istore (lv' := [(4, .int (nI (popc ((z k) &&& (((1 : Int64) <<< ((x).toInt64 &&& 63)) - 1))))), (3, .int (nI (popc (z k)))), (0, .ref (ad 15)), (1, .int (nI k)), (2, .int x)]) hx hb d_X_share_27 hl (by decide) rfl (fun ls hl => ?_)
    refine lv_aload_n hx hb d_X_share_29 rfl (lv_at hl 2 rfl) ?_
    refine va_get (D := D) (ci := 3) (v := .ref (ad 19)) (C := R_X) (T := F_X) (N := 9) hx hb htb iw_X hown hK hP 15 rfl rfl 4 (by decide) (htb _ mw_132) (fun _ h9 => h9) rfl d_X_share_30 ?_
    refine lv_iload_n hx hb d_X_share_33 rfl (lv_at hl 3 rfl) ?_
    refine q_iald hx hb hK hP 19 15 rfl rfl k (by omega) (by decide) d_X_share_34 ?_
    refine lv_iload_n hx hb d_X_share_35 rfl (lv_at hl 1 rfl) ?_
    refine lv_idiv hx hb d_X_share_36 (by assumption) ?_
    refine lv_iload hx hb d_X_share_37 (lv_at hl 0 rfl) ?_
    refine lv_aload_n hx hb d_X_share_39 rfl (lv_at hl 2 rfl) ?_
    refine va_get (D := D) (ci := 3) (v := .ref (ad 19)) (C := R_X) (T := F_X) (N := 9) hx hb htb iw_X hown hK hP 15 rfl rfl 4 (by decide) (htb _ mw_132) (fun _ h9 => h9) rfl d_X_share_40 ?_
    refine lv_iload_n hx hb d_X_share_43 rfl (lv_at hl 3 rfl) ?_
    refine q_iald hx hb hK hP 19 15 rfl rfl k (by omega) (by decide) d_X_share_44 ?_
    refine lv_iload_n hx hb d_X_share_45 rfl (lv_at hl 1 rfl) ?_
    refine lv_irem hx hb d_X_share_46 (by assumption) ?_
    refine lv_icmp_ge (tgt := 54) hx hb d_X_share_47 (by decide) (fun c2 => ?_) (fun c2 => ?_)
    · refine lv_iconst (v := 0) hx hb d_X_share_54 (by decide) ?_
      refine lv_iadd hx hb d_X_share_55 ?_
      exact hret _ _ _ (by simp [shaX, bitM, bI, c1, c2]) d_X_share_56
    · refine lv_iconst (v := 1) hx hb d_X_share_50 (by decide) ?_
      refine lv_goto (tgt := 55) hx hb d_X_share_51 (by decide) ?_
      refine lv_iadd hx hb d_X_share_55 ?_
      exact hret _ _ _ (by simp [shaX, bitM, bI, c1, c2]) d_X_share_56
  · refine lv_iconst (v := 0) hx hb d_X_share_10 (by decide) ?_
    exact hret _ _ _ (by simp [shaX, bitM, bI, c1]) d_X_share_11
set_option maxHeartbeats 4000000 in
set_option maxRecDepth 100000 in
theorem c_X_landedOf (l : Launch) (D : va_G) (ad : Nat → Nat) (kd : Nat → ClassId) (g : Nat → Nat → Int32) (z : Nat → Int64) (v : Nat → Int32) (nx : Nat) (hnx : v 4 = nI nx) (hx6 : nx ≤ 60) (x : Int32) : RD l y_X_landedOf (.code y_X_landedOf b_X_landedOf 4 (some .int) :: TB) ({ frames := 3, cells := 0, slots := 0, locals := 66 } : Room) [.ref (ad 15), .int x] D classes (wA ad kd g z v) (tA kd) (lnoX g z nx x) := by
  refine rd_of (by decide +kernel) (rfl) (Nat.le_of_ble_eq_true rfl) ?_
  intro p e s m args below meth c Q ls hx hb hml htb hown hP hK hl hret
  have hl : lv_has ls 4 [(0, .ref (ad 15)), (1, .int x)] := hl
  refine lv_iconst (v := 0) hx hb d_X_landedOf_0 (by decide) ?_
  refine lv_istore_n (lv' := [(2, .int 0), (0, .ref (ad 15)), (1, .int x)]) hx hb d_X_landedOf_1 rfl hl (by decide) rfl (fun ls hl => ?_)
  refine lv_iconst (v := 0) hx hb d_X_landedOf_2 (by decide) ?_
  refine lv_istore_n (lv' := [(3, .int 0), (2, .int 0), (0, .ref (ad 15)), (1, .int x)]) hx hb d_X_landedOf_3 rfl hl (by decide) rfl (fun ls hl => ?_)
  have lp4 : ∀ (n : Nat) (i : Nat) (sm : Int32), i ≤ nx → nx + 1 ≤ i + n → sm = sumN (fun k => if onX z k x = true then (if lanX g k = true then shaX g z k x else 0) else 0) i → ∀ (ls : Array Slot), lv_has ls 4 [(0, .ref (ad 15)), (1, .int x), (2, .int sm), (3, .int (nI i))] → W p l e ({ frames := 3, cells := 0, slots := 0, locals := 66 } : Room) s m args below meth c s.heap [] 0 0 Q (F0 m 4 ls []) := by
    intro n
    induction n with
    | zero => intro i sm hi hm hf ls hl; exact absurd hm (by omega)
    | succ n ih =>
      intro i sm hi hm hf ls hl
      refine lv_iload_n hx hb d_X_landedOf_4 rfl (lv_at hl 3 rfl) ?_
      refine lv_aload_n hx hb d_X_landedOf_5 rfl (lv_at hl 0 rfl) ?_
      refine va_get (D := D) (ci := 3) (v := .int (nI nx)) (C := R_X) (T := F_X) (N := 9) hx hb htb iw_X hown hK hP 15 rfl rfl 0 (by decide) (htb _ mw_124) (fun _ h9 => h9) (congrArg (fun x => some (Value.int x)) hnx) d_X_landedOf_6 ?_
      refine q_icmp_ge (a := i) (b := nx) (tgt := 44) hx hb (by omega) (by omega) d_X_landedOf_9 (by decide) (fun c1 => ?_) (fun c1 => ?_)
      · refine lv_iload_n hx hb d_X_landedOf_44 rfl (lv_at hl 2 rfl) ?_
        exact hret _ _ _ (by show sm = sumN (fun k => if onX z k x = true then (if lanX g k = true then shaX g z k x else 0) else 0) nx; rw [show nx = i by omega, hf]) d_X_landedOf_45
      · refine lv_aload_n hx hb d_X_landedOf_12 rfl (lv_at hl 0 rfl) ?_
        refine lv_iload_n hx hb d_X_landedOf_13 rfl (lv_at hl 3 rfl) ?_
        refine lv_iload_n hx hb d_X_landedOf_14 rfl (lv_at hl 1 rfl) ?_
        refine rdV (As := [.int (nI i), .int x]) (rest := []) (b := ad 15) ⟨hx, hb, hml, hown, htb⟩ (c_X_isOn l D ad kd g z v i (by omega) x) (cwV (C := R_X) 2 htb (gV tb_good mw_533 mw_190 mw_191 mw_30 mw_192) rfl rfl rfl (by decide +kernel) ⟨Nat.le_of_ble_eq_true rfl, Nat.le_of_ble_eq_true rfl⟩) hP hK (va_recv hK hP (ci := 3) (q0 := 15) rfl rfl) rfl hl.1 rfl (lv_room (Nat.le_of_ble_eq_true rfl)) d_X_landedOf_15 ⟨Nat.zero_le _, Nat.zero_le _⟩ ?_
        refine lv_if_eq (tgt := 38) hx hb d_X_landedOf_18 (by decide) (fun c2 => ?_) (fun c2 => ?_)
        · replace c2 := bI_f c2
          refine lv_iinc (v := (nI (i + 1))) (lv' := [(3, .int (nI (i + 1))), (0, .ref (ad 15)), (1, .int x), (2, .int sm)]) hx hb d_X_landedOf_38 hl (k := 3) rfl (q_inc _) (by decide) rfl (fun ls hl => ?_)
          refine lv_goto (tgt := 4) hx hb d_X_landedOf_41 (by decide) ?_
          exact ih (i + 1) sm (by omega) (by omega) (by show sm = sumN (fun k => if onX z k x = true then (if lanX g k = true then shaX g z k x else 0) else 0) i + _; rw [← hf]; simp [c1, c2]) _ (lv_sub hl [1, 2, 3, 0] rfl)
        · replace c2 := bI_t c2
          refine lv_aload_n hx hb d_X_landedOf_21 rfl (lv_at hl 0 rfl) ?_
          refine lv_iload_n hx hb d_X_landedOf_22 rfl (lv_at hl 3 rfl) ?_
          refine rdV (As := [.int (nI i)]) (rest := []) (b := ad 15) ⟨hx, hb, hml, hown, htb⟩ (c_X_hasLanded l D ad kd g z v i (by omega)) (cwV (C := R_X) 1 htb (gV tb_good mw_251 mw_216 mw_217 mw_30 mw_218) rfl rfl rfl (by decide +kernel) ⟨Nat.le_of_ble_eq_true rfl, Nat.le_of_ble_eq_true rfl⟩) hP hK (va_recv hK hP (ci := 3) (q0 := 15) rfl rfl) rfl hl.1 rfl (lv_room (Nat.le_of_ble_eq_true rfl)) d_X_landedOf_23 ⟨Nat.zero_le _, Nat.zero_le _⟩ ?_
          refine lv_if_eq (tgt := 38) hx hb d_X_landedOf_26 (by decide) (fun c3 => ?_) (fun c3 => ?_)
          · replace c3 := bI_f c3
            refine lv_iinc (v := (nI (i + 1))) (lv' := [(3, .int (nI (i + 1))), (0, .ref (ad 15)), (1, .int x), (2, .int sm)]) hx hb d_X_landedOf_38 hl (k := 3) rfl (q_inc _) (by decide) rfl (fun ls hl => ?_)
            refine lv_goto (tgt := 4) hx hb d_X_landedOf_41 (by decide) ?_
            exact ih (i + 1) sm (by omega) (by omega) (by show sm = sumN (fun k => if onX z k x = true then (if lanX g k = true then shaX g z k x else 0) else 0) i + _; rw [← hf]; simp [c1, c2, c3]) _ (lv_sub hl [1, 2, 3, 0] rfl)
          · replace c3 := bI_t c3
            refine lv_iload_n hx hb d_X_landedOf_29 rfl (lv_at hl 2 rfl) ?_
            refine lv_aload_n hx hb d_X_landedOf_30 rfl (lv_at hl 0 rfl) ?_
            refine lv_iload_n hx hb d_X_landedOf_31 rfl (lv_at hl 3 rfl) ?_
            refine lv_iload_n hx hb d_X_landedOf_32 rfl (lv_at hl 1 rfl) ?_
            refine rdV (As := [.int (nI i), .int x]) (rest := [.int sm]) (b := ad 15) ⟨hx, hb, hml, hown, htb⟩ (c_X_share l D ad kd g z v i (by omega) x) (cwV (C := R_X) 2 htb (gV tb_good mw_534 mw_535 mw_536 mw_30 mw_537) rfl rfl rfl (by decide +kernel) ⟨Nat.le_of_ble_eq_true rfl, Nat.le_of_ble_eq_true rfl⟩) hP hK (va_recv hK hP (ci := 3) (q0 := 15) rfl rfl) rfl hl.1 rfl (lv_room (Nat.le_of_ble_eq_true rfl)) d_X_landedOf_33 ⟨Nat.zero_le _, Nat.zero_le _⟩ ?_
            refine lv_iadd hx hb d_X_landedOf_36 ?_
            refine lv_istore_n (lv' := [(2, .int (sm + (shaX g z i x))), (0, .ref (ad 15)), (1, .int x), (3, .int (nI i))]) hx hb d_X_landedOf_37 rfl hl (by decide) rfl (fun ls hl => ?_)
            refine lv_iinc (v := (nI (i + 1))) (lv' := [(3, .int (nI (i + 1))), (2, .int (sm + (shaX g z i x))), (0, .ref (ad 15)), (1, .int x)]) hx hb d_X_landedOf_38 hl (k := 3) rfl (q_inc _) (by decide) rfl (fun ls hl => ?_)
            refine lv_goto (tgt := 4) hx hb d_X_landedOf_41 (by decide) ?_
            exact ih (i + 1) (sm + (shaX g z i x)) (by omega) (by omega) (by show (sm + (shaX g z i x)) = sumN (fun k => if onX z k x = true then (if lanX g k = true then shaX g z k x else 0) else 0) i + _; rw [← hf]; simp [c1, c2, c3]) _ (lv_sub hl [2, 3, 1, 0] rfl)
  exact lp4 (nx + 1) 0 0 (Nat.zero_le _) (by omega) rfl _ (lv_sub hl [2, 3, 1, 0] rfl)
set_option maxHeartbeats 4000000 in
set_option maxRecDepth 100000 in
theorem c_X_first (l : Launch) (D : va_G) (ad : Nat → Nat) (kd : Nat → ClassId) (g : Nat → Nat → Int32) (z : Nat → Int64) (v : Nat → Int32) (nx : Nat) (hnx : v 4 = nI nx) (hx6 : nx ≤ 60) (k : Nat) (hk : k < 60) : RD l y_X_first (.code y_X_first b_X_first 4 (some .int) :: TB) ({ frames := 1, cells := 0, slots := 0, locals := 21 } : Room) [.ref (ad 15), .int (nI k)] D classes (wA ad kd g z v) (tA kd) (nI (firL g nx 60 k)) := by
  refine rd_of (by decide +kernel) (rfl) (Nat.le_of_ble_eq_true rfl) ?_
  intro p e s m args below meth c Q ls hx hb hml htb hown hP hK hl hret
  have hl : lv_has ls 4 [(0, .ref (ad 15)), (1, .int (nI k))] := hl
  refine lv_iload_n hx hb d_X_first_0 rfl (lv_at hl 1 rfl) ?_
  refine lv_istore_n (lv' := [(2, .int (nI k)), (0, .ref (ad 15)), (1, .int (nI k))]) hx hb d_X_first_1 rfl hl (by decide) rfl (fun ls hl => ?_)
  refine lv_iconst (v := 0) hx hb d_X_first_2 (by decide) ?_
  refine lv_istore_n (lv' := [(3, .int 0), (2, .int (nI k)), (0, .ref (ad 15)), (1, .int (nI k))]) hx hb d_X_first_3 rfl hl (by decide) rfl (fun ls hl => ?_)
  have lp4 : ∀ (n : Nat) (i f : Nat), i ≤ 60 → 61 ≤ i + n → f < 60 → firL g nx (60 - i) f = firL g nx 60 k → ∀ (ls : Array Slot), lv_has ls 4 [(0, .ref (ad 15)), (2, .int (nI f)), (3, .int (nI i))] → W p l e ({ frames := 1, cells := 0, slots := 0, locals := 21 } : Room) s m args below meth c s.heap [] 0 0 Q (F0 m 4 ls []) := by
    intro n
    induction n with
    | zero => intro i f hi hm hf6 hf ls hl; exact absurd hm (by omega)
    | succ n ih =>
      intro i f hi hm hf6 hf ls hl
      refine lv_iload_n hx hb d_X_first_4 rfl (lv_at hl 2 rfl) ?_
      refine lv_bipush (v := 60) hx hb d_X_first_5 (by decide) ?_
      refine q_icmp_ge (a := i) (b := 60) (tgt := 36) hx hb (by omega) (by omega) d_X_first_7 (by decide) (fun c1 => ?_) (fun c1 => ?_)
      · refine lv_iload_n hx hb d_X_first_36 rfl (lv_at hl 1 rfl) ?_
        exact hret _ _ _ (by rw [← hf, show 60 - i = 0 by omega]; rfl) d_X_first_37
      · refine lv_aload_n hx hb d_X_first_10 rfl (lv_at hl 0 rfl) ?_
        refine lv_aload_n hx hb d_X_first_11 rfl (lv_at hl 0 rfl) ?_
        refine va_get (D := D) (ci := 3) (v := .ref (ad 23)) (C := R_X) (T := F_X) (N := 9) hx hb htb iw_X hown hK hP 15 rfl rfl 8 (by decide) (htb _ mw_139) (fun _ h9 => h9) rfl d_X_first_12 ?_
        refine lv_iload_n hx hb d_X_first_15 rfl (lv_at hl 1 rfl) ?_
        refine q_iald hx hb hK hP 23 19 rfl rfl f (by omega) (by decide) d_X_first_16 ?_
        refine rdV (As := [.int (g 23 f)]) (rest := []) (b := ad 15) ⟨hx, hb, hml, hown, htb⟩ (c_X_has l D ad kd g z v nx hnx hx6 (g 23 f)) (cwV (C := R_X) 1 htb (gV tb_good mw_242 mw_182 mw_183 mw_30 mw_184) rfl rfl rfl (by decide +kernel) ⟨Nat.le_of_ble_eq_true rfl, Nat.le_of_ble_eq_true rfl⟩) hP hK (va_recv hK hP (ci := 3) (q0 := 15) rfl rfl) rfl hl.1 rfl (lv_room (Nat.le_of_ble_eq_true rfl)) d_X_first_17 ⟨Nat.zero_le _, Nat.zero_le _⟩ ?_
        refine lv_if_eq (tgt := 36) hx hb d_X_first_20 (by decide) (fun c2 => ?_) (fun c2 => ?_)
        · replace c2 := bI_f c2
          refine lv_iload_n hx hb d_X_first_36 rfl (lv_at hl 1 rfl) ?_
          exact hret _ _ _ (by rw [← hf, show 60 - i = (60 - (i + 1)) + 1 by omega]; show _ = nI (if inN nx (g 23 f) = true then firL g nx (60 - (i + 1)) (ix (g 23 f)) else f); rw [if_neg (by rw [c2]; decide)]) d_X_first_37
        · replace c2 := bI_t c2
          obtain ⟨q, hq, eq⟩ := inN_ix c2 (by omega)
          refine lv_aload_n hx hb d_X_first_23 rfl (lv_at hl 0 rfl) ?_
          refine va_get (D := D) (ci := 3) (v := .ref (ad 23)) (C := R_X) (T := F_X) (N := 9) hx hb htb iw_X hown hK hP 15 rfl rfl 8 (by decide) (htb _ mw_139) (fun _ h9 => h9) rfl d_X_first_24 ?_
          refine lv_iload_n hx hb d_X_first_27 rfl (lv_at hl 1 rfl) ?_
          refine q_iald hx hb hK hP 23 19 rfl rfl f (by omega) (by decide) d_X_first_28 ?_
          refine W.eq (congrArg (fun z => F0 m 29 ls (.int z :: [])) (show (g 23 f) = (nI q) from eq)) ?_
          refine lv_istore_n (lv' := [(2, .int (nI q)), (0, .ref (ad 15)), (3, .int (nI i))]) hx hb d_X_first_29 rfl hl (by decide) rfl (fun ls hl => ?_)
          refine lv_iinc (v := (nI (i + 1))) (lv' := [(3, .int (nI (i + 1))), (2, .int (nI q)), (0, .ref (ad 15))]) hx hb d_X_first_30 hl (k := 2) rfl (q_inc _) (by decide) rfl (fun ls hl => ?_)
          refine lv_goto (tgt := 4) hx hb d_X_first_33 (by decide) ?_
          exact ih (i + 1) q (by omega) (by omega) (by omega) (by rw [← hf, show 60 - i = (60 - (i + 1)) + 1 by omega]; show _ = (if inN nx (g 23 f) = true then firL g nx (60 - (i + 1)) (ix (g 23 f)) else f); rw [if_pos c2, eq, ix_nI (by omega)]) _ (lv_sub hl [2, 1, 0] rfl)
  exact lp4 61 0 k (by omega) (by omega) hk rfl _ (lv_sub hl [2, 1, 0] rfl)
set_option maxHeartbeats 4000000 in
set_option maxRecDepth 100000 in
theorem c_X_weightSoFar (l : Launch) (D : va_G) (ad : Nat → Nat) (kd : Nat → ClassId) (g : Nat → Nat → Int32) (z : Nat → Int64) (v : Nat → Int32) (nx : Nat) (hnx : v 4 = nI nx) (hx6 : nx ≤ 60) (k : Nat) (hk : k < 60) : RD l y_X_weightSoFar (.code y_X_weightSoFar b_X_weightSoFar 5 (some .int) :: TB) ({ frames := 1, cells := 0, slots := 0, locals := 21 } : Room) [.ref (ad 15), .int (nI k)] D classes (wA ad kd g z v) (tA kd) (wsfL g nx 60 k (g 18 k)) := by
  refine rd_of (by decide +kernel) (rfl) (Nat.le_of_ble_eq_true rfl) ?_
  intro p e s m args below meth c Q ls hx hb hml htb hown hP hK hl hret
  have hl : lv_has ls 5 [(0, .ref (ad 15)), (1, .int (nI k))] := hl
  refine lv_iload_n hx hb d_X_weightSoFar_0 rfl (lv_at hl 1 rfl) ?_
  refine lv_istore_n (lv' := [(2, .int (nI k)), (0, .ref (ad 15)), (1, .int (nI k))]) hx hb d_X_weightSoFar_1 rfl hl (by decide) rfl (fun ls hl => ?_)
  refine lv_aload_n hx hb d_X_weightSoFar_2 rfl (lv_at hl 1 rfl) ?_
  refine va_get (D := D) (ci := 3) (v := .ref (ad 18)) (C := R_X) (T := F_X) (N := 9) hx hb htb iw_X hown hK hP 15 rfl rfl 3 (by decide) (htb _ mw_130) (fun _ h9 => h9) rfl d_X_weightSoFar_3 ?_
  refine lv_iload_n hx hb d_X_weightSoFar_6 rfl (lv_at hl 2 rfl) ?_
  refine q_iald hx hb hK hP 18 14 rfl rfl k (by omega) (by decide) d_X_weightSoFar_7 ?_
  refine lv_istore_n (lv' := [(3, .int (g 18 k)), (2, .int (nI k)), (0, .ref (ad 15)), (1, .int (nI k))]) hx hb d_X_weightSoFar_8 rfl hl (by decide) rfl (fun ls hl => ?_)
  refine lv_iconst (v := 0) hx hb d_X_weightSoFar_9 (by decide) ?_
  refine lv_istore (lv' := [(4, .int 0), (3, .int (g 18 k)), (2, .int (nI k)), (0, .ref (ad 15)), (1, .int (nI k))]) hx hb d_X_weightSoFar_10 hl (by decide) rfl (fun ls hl => ?_)
  have lp12 : ∀ (n : Nat) (i f : Nat) (sm : Int32), i ≤ 60 → 61 ≤ i + n → f < 60 → wsfL g nx (60 - i) f sm = wsfL g nx 60 k (g 18 k) → ∀ (ls : Array Slot), lv_has ls 5 [(0, .ref (ad 15)), (2, .int (nI f)), (3, .int sm), (4, .int (nI i))] → W p l e ({ frames := 1, cells := 0, slots := 0, locals := 21 } : Room) s m args below meth c s.heap [] 0 0 Q (F0 m 12 ls []) := by
    intro n
    induction n with
    | zero => intro i f sm hi hm hf6 hf ls hl; exact absurd hm (by omega)
    | succ n ih =>
      intro i f sm hi hm hf6 hf ls hl
      refine lv_iload hx hb d_X_weightSoFar_12 (lv_at hl 3 rfl) ?_
      refine lv_bipush (v := 60) hx hb d_X_weightSoFar_14 (by decide) ?_
      refine q_icmp_ge (a := i) (b := 60) (tgt := 54) hx hb (by omega) (by omega) d_X_weightSoFar_16 (by decide) (fun c1 => ?_) (fun c1 => ?_)
      · refine lv_iload_n hx hb d_X_weightSoFar_54 rfl (lv_at hl 2 rfl) ?_
        exact hret _ _ _ (by rw [← hf, show 60 - i = 0 by omega]; rfl) d_X_weightSoFar_55
      · refine lv_aload_n hx hb d_X_weightSoFar_19 rfl (lv_at hl 0 rfl) ?_
        refine lv_aload_n hx hb d_X_weightSoFar_20 rfl (lv_at hl 0 rfl) ?_
        refine va_get (D := D) (ci := 3) (v := .ref (ad 23)) (C := R_X) (T := F_X) (N := 9) hx hb htb iw_X hown hK hP 15 rfl rfl 8 (by decide) (htb _ mw_139) (fun _ h9 => h9) rfl d_X_weightSoFar_21 ?_
        refine lv_iload_n hx hb d_X_weightSoFar_24 rfl (lv_at hl 1 rfl) ?_
        refine q_iald hx hb hK hP 23 19 rfl rfl f (by omega) (by decide) d_X_weightSoFar_25 ?_
        refine rdV (As := [.int (g 23 f)]) (rest := []) (b := ad 15) ⟨hx, hb, hml, hown, htb⟩ (c_X_has l D ad kd g z v nx hnx hx6 (g 23 f)) (cwV (C := R_X) 1 htb (gV tb_good mw_242 mw_182 mw_183 mw_30 mw_184) rfl rfl rfl (by decide +kernel) ⟨Nat.le_of_ble_eq_true rfl, Nat.le_of_ble_eq_true rfl⟩) hP hK (va_recv hK hP (ci := 3) (q0 := 15) rfl rfl) rfl hl.1 rfl (lv_room (Nat.le_of_ble_eq_true rfl)) d_X_weightSoFar_26 ⟨Nat.zero_le _, Nat.zero_le _⟩ ?_
        refine lv_if_eq (tgt := 54) hx hb d_X_weightSoFar_29 (by decide) (fun c2 => ?_) (fun c2 => ?_)
        · replace c2 := bI_f c2
          refine lv_iload_n hx hb d_X_weightSoFar_54 rfl (lv_at hl 2 rfl) ?_
          exact hret _ _ _ (by rw [← hf, show 60 - i = (60 - (i + 1)) + 1 by omega]; show _ = (if inN nx (g 23 f) = true then wsfL g nx (60 - (i + 1)) (ix (g 23 f)) (sm + g 18 (ix (g 23 f))) else sm); rw [if_neg (by rw [c2]; decide)]) d_X_weightSoFar_55
        · replace c2 := bI_t c2
          obtain ⟨q, hq, eq⟩ := inN_ix c2 (by omega)
          refine lv_aload_n hx hb d_X_weightSoFar_32 rfl (lv_at hl 0 rfl) ?_
          refine va_get (D := D) (ci := 3) (v := .ref (ad 23)) (C := R_X) (T := F_X) (N := 9) hx hb htb iw_X hown hK hP 15 rfl rfl 8 (by decide) (htb _ mw_139) (fun _ h9 => h9) rfl d_X_weightSoFar_33 ?_
          refine lv_iload_n hx hb d_X_weightSoFar_36 rfl (lv_at hl 1 rfl) ?_
          refine q_iald hx hb hK hP 23 19 rfl rfl f (by omega) (by decide) d_X_weightSoFar_37 ?_
          refine W.eq (congrArg (fun z => F0 m 38 ls (.int z :: [])) (show (g 23 f) = (nI q) from eq)) ?_
          refine lv_istore_n (lv' := [(2, .int (nI q)), (0, .ref (ad 15)), (3, .int sm), (4, .int (nI i))]) hx hb d_X_weightSoFar_38 rfl hl (by decide) rfl (fun ls hl => ?_)
          refine lv_iload_n hx hb d_X_weightSoFar_39 rfl (lv_at hl 2 rfl) ?_
          refine lv_aload_n hx hb d_X_weightSoFar_40 rfl (lv_at hl 1 rfl) ?_
          refine va_get (D := D) (ci := 3) (v := .ref (ad 18)) (C := R_X) (T := F_X) (N := 9) hx hb htb iw_X hown hK hP 15 rfl rfl 3 (by decide) (htb _ mw_130) (fun _ h9 => h9) rfl d_X_weightSoFar_41 ?_
          refine lv_iload_n hx hb d_X_weightSoFar_44 rfl (lv_at hl 0 rfl) ?_
          refine q_iald hx hb hK hP 18 14 rfl rfl q (by omega) (by decide) d_X_weightSoFar_45 ?_
          refine lv_iadd hx hb d_X_weightSoFar_46 ?_
          refine lv_istore_n (lv' := [(3, .int (sm + (g 18 q))), (2, .int (nI q)), (0, .ref (ad 15)), (4, .int (nI i))]) hx hb d_X_weightSoFar_47 rfl hl (by decide) rfl (fun ls hl => ?_)
          refine lv_iinc (v := (nI (i + 1))) (lv' := [(4, .int (nI (i + 1))), (3, .int (sm + (g 18 q))), (2, .int (nI q)), (0, .ref (ad 15))]) hx hb d_X_weightSoFar_48 hl (k := 3) rfl (q_inc _) (by decide) rfl (fun ls hl => ?_)
          refine lv_goto (tgt := 12) hx hb d_X_weightSoFar_51 (by decide) ?_
          exact ih (i + 1) q (sm + (g 18 q)) (by omega) (by omega) (by omega) (by rw [← hf, show 60 - i = (60 - (i + 1)) + 1 by omega]; show _ = (if inN nx (g 23 f) = true then wsfL g nx (60 - (i + 1)) (ix (g 23 f)) (sm + g 18 (ix (g 23 f))) else sm); rw [if_pos c2, eq, ix_nI (by omega)]) _ (lv_sub hl [3, 2, 1, 0] rfl)
  exact lp12 61 0 k (g 18 k) (by omega) (by omega) hk rfl _ (lv_sub hl [3, 2, 1, 0] rfl)
end
section
set_option maxHeartbeats 4000000 in
set_option maxRecDepth 100000 in
theorem c_M_hasArrived (l : Launch) (D : va_G) (ad : Nat → Nat) (kd : Nat → ClassId) (g : Nat → Nat → Int32) (z : Nat → Int64) (v : Nat → Int32) (x : Int32) : RD l y_M_hasArrived (.code y_M_hasArrived b_M_hasArrived 2 (some .boolean) :: TB) ({ frames := 0, cells := 0, slots := 0, locals := 0 } : Room) [.ref (ad 0), .int x] D classes (wA ad kd g z v) (tA kd) (bI (arrS v x)) := by
  refine rd_of (by decide +kernel) (bI_nar _) (Nat.le_of_ble_eq_true rfl) ?_
  intro p e s m args below meth c Q ls hx hb hml htb hown hP hK hl hret
  have hl : lv_has ls 2 [(0, .ref (ad 0)), (1, .int x)] := hl
  refine lv_aload_n hx hb d_M_hasArrived_0 rfl (lv_at hl 0 rfl) ?_
  refine va_get (D := D) (ci := 0) (v := .int (v 0)) (C := R_M) (T := F_M) (N := 5) hx hb htb iw_M hown hK hP 0 rfl rfl 3 (by decide) (htb _ mw_164) (fun _ h9 => h9) rfl d_M_hasArrived_1 ?_
  refine lv_iconst (v := 1) hx hb d_M_hasArrived_4 (by decide) ?_
  refine lv_iload_n hx hb d_M_hasArrived_5 rfl (lv_at hl 1 rfl) ?_
  refine lv_ishl hx hb d_M_hasArrived_6 ?_
  refine lv_iand hx hb d_M_hasArrived_7 ?_
  refine lv_if_eq (tgt := 15) hx hb d_M_hasArrived_8 (by decide) (fun c1 => ?_) (fun c1 => ?_)
  · refine lv_iconst (v := 0) hx hb d_M_hasArrived_15 (by decide) ?_
    exact hret _ _ _ (by simp [arrS, bI, c1]) d_M_hasArrived_16
  · refine lv_iconst (v := 1) hx hb d_M_hasArrived_11 (by decide) ?_
    refine lv_goto (tgt := 16) hx hb d_M_hasArrived_12 (by decide) ?_
    exact hret _ _ _ (by simp [arrS, bI, c1]) d_M_hasArrived_16
set_option maxHeartbeats 4000000 in
set_option maxRecDepth 100000 in
theorem c_M_difference (l : Launch) (D : va_G) (ad : Nat → Nat) (kd : Nat → ClassId) (g : Nat → Nat → Int32) (z : Nat → Int64) (v : Nat → Int32) (nb : Nat) (hnb : v 2 = nI nb) (hb6 : nb ≤ 60) (k : Nat) (hk : k < 60) : RD l y_M_difference (.code y_M_difference b_M_difference 5 (some .int) :: TB) ({ frames := 0, cells := 0, slots := 0, locals := 0 } : Room) [.ref (ad 0), .int (nI k)] D classes (wA ad kd g z v) (tA kd) (difB g nb k) := by
  refine rd_of (by decide +kernel) (rfl) (Nat.le_of_ble_eq_true rfl) ?_
  intro p e s m args below meth c Q ls hx hb hml htb hown hP hK hl hret
  have hl : lv_has ls 5 [(0, .ref (ad 0)), (1, .int (nI k))] := hl
  refine lv_iconst (v := 0) hx hb d_M_difference_0 (by decide) ?_
  refine lv_istore_n (lv' := [(2, .int 0), (0, .ref (ad 0)), (1, .int (nI k))]) hx hb d_M_difference_1 rfl hl (by decide) rfl (fun ls hl => ?_)
  refine lv_iconst (v := 0) hx hb d_M_difference_2 (by decide) ?_
  refine lv_istore_n (lv' := [(3, .int 0), (2, .int 0), (0, .ref (ad 0)), (1, .int (nI k))]) hx hb d_M_difference_3 rfl hl (by decide) rfl (fun ls hl => ?_)
  refine lv_iconst (v := 0) hx hb d_M_difference_4 (by decide) ?_
  refine lv_istore (lv' := [(4, .int 0), (3, .int 0), (2, .int 0), (0, .ref (ad 0)), (1, .int (nI k))]) hx hb d_M_difference_5 hl (by decide) rfl (fun ls hl => ?_)
  have lp7 : ∀ (n : Nat) (i : Nat) (f : Nat) (sm : Int32), i ≤ nb → nb + 1 ≤ i + n → f = cntN (fun o => decide (g 4 o = nI k)) i → sm = sumN (fun o => if g 4 o = nI k then g 13 o else 0) i → ∀ (ls : Array Slot), lv_has ls 5 [(0, .ref (ad 0)), (1, .int (nI k)), (2, .int (nI f)), (3, .int sm), (4, .int (nI i))] → W p l e ({ frames := 0, cells := 0, slots := 0, locals := 0 } : Room) s m args below meth c s.heap [] 0 0 Q (F0 m 7 ls []) := by
    intro n
    induction n with
    | zero => intro i f sm hi hm hf hs ls hl; exact absurd hm (by omega)
    | succ n ih =>
      intro i f sm hi hm hf hs ls hl
      refine lv_iload hx hb d_M_difference_7 (lv_at hl 4 rfl) ?_
      refine lv_aload_n hx hb d_M_difference_9 rfl (lv_at hl 0 rfl) ?_
      refine va_get (D := D) (ci := 0) (v := .ref (ad 1)) (C := R_M) (T := F_M) (N := 5) hx hb htb iw_M hown hK hP 0 rfl rfl 0 (by decide) (htb _ mw_161) (fun _ h9 => h9) rfl d_M_difference_10 ?_
      refine va_get (D := D) (ci := 1) (v := .int (nI nb)) (C := R_B) (T := F_B) (N := 8) hx hb htb iw_B hown hK hP 1 rfl rfl 0 (by decide) (htb _ mw_56) (fun _ h9 => h9) (congrArg (fun x => some (Value.int x)) hnb) d_M_difference_13 ?_
      refine q_icmp_ge (a := i) (b := nb) (tgt := 55) hx hb (by omega) (by omega) d_M_difference_16 (by decide) (fun c1 => ?_) (fun c1 => ?_)
      · refine lv_iload_n hx hb d_M_difference_55 rfl (lv_at hl 2 rfl) ?_
        refine lv_if_ne (tgt := 63) hx hb d_M_difference_56 (by decide) (fun c2 => ?_) (fun c2 => ?_)
        · refine lv_aload_n hx hb d_M_difference_63 rfl (lv_at hl 0 rfl) ?_
          refine va_get (D := D) (ci := 0) (v := .ref (ad 9)) (C := R_M) (T := F_M) (N := 5) hx hb htb iw_M hown hK hP 0 rfl rfl 1 (by decide) (htb _ mw_162) (fun _ h9 => h9) rfl d_M_difference_64 ?_
          refine va_get (D := D) (ci := 2) (v := .ref (ad 13)) (C := R_N) (T := F_N) (N := 6) hx hb htb iw_N hown hK hP 9 rfl rfl 4 (by decide) (htb _ mw_102) (fun _ h9 => h9) rfl d_M_difference_67 ?_
          refine lv_iload_n hx hb d_M_difference_70 rfl (lv_at hl 1 rfl) ?_
          refine q_iald hx hb hK hP 13 10 rfl rfl k (by omega) (by decide) d_M_difference_71 ?_
          refine lv_iload_n hx hb d_M_difference_72 rfl (lv_at hl 3 rfl) ?_
          refine lv_isub hx hb d_M_difference_73 ?_
          exact hret _ _ _ (by show _ = (if cntN (fun o => decide (g 4 o = nI k)) nb = 0 then 0 else g 13 k - sumN (fun o => if g 4 o = nI k then g 13 o else 0) nb); rw [show nb = i by omega, ← hf, ← hs]; rw [if_neg (fun q => c2 (by rw [q]; rfl))]) d_M_difference_74
        · refine lv_iconst (v := 0) hx hb d_M_difference_59 (by decide) ?_
          refine lv_goto (tgt := 74) hx hb d_M_difference_60 (by decide) ?_
          exact hret _ _ _ (by show _ = (if cntN (fun o => decide (g 4 o = nI k)) nb = 0 then 0 else g 13 k - sumN (fun o => if g 4 o = nI k then g 13 o else 0) nb); rw [show nb = i by omega, ← hf, ← hs]; rw [if_pos ((nI_eq (by have := cntN_le (fun o => decide (g 4 o = nI k)) i; omega) (by decide)).mp (c2.trans nI_0.symm))]) d_M_difference_74
      · refine lv_aload_n hx hb d_M_difference_19 rfl (lv_at hl 0 rfl) ?_
        refine va_get (D := D) (ci := 0) (v := .ref (ad 1)) (C := R_M) (T := F_M) (N := 5) hx hb htb iw_M hown hK hP 0 rfl rfl 0 (by decide) (htb _ mw_161) (fun _ h9 => h9) rfl d_M_difference_20 ?_
        refine va_get (D := D) (ci := 1) (v := .ref (ad 4)) (C := R_B) (T := F_B) (N := 8) hx hb htb iw_B hown hK hP 1 rfl rfl 3 (by decide) (htb _ mw_62) (fun _ h9 => h9) rfl d_M_difference_23 ?_
        refine lv_iload hx hb d_M_difference_26 (lv_at hl 4 rfl) ?_
        refine q_iald hx hb hK hP 4 2 rfl rfl i (by omega) (by decide) d_M_difference_28 ?_
        refine lv_iload_n hx hb d_M_difference_29 rfl (lv_at hl 1 rfl) ?_
        refine lv_icmp_ne (tgt := 49) hx hb d_M_difference_30 (by decide) (fun c3 => ?_) (fun c3 => ?_)
        · refine lv_iinc (v := (nI (i + 1))) (lv' := [(4, .int (nI (i + 1))), (0, .ref (ad 0)), (1, .int (nI k)), (2, .int (nI f)), (3, .int sm)]) hx hb d_M_difference_49 hl (k := 4) rfl (q_inc _) (by decide) rfl (fun ls hl => ?_)
          refine lv_goto (tgt := 7) hx hb d_M_difference_52 (by decide) ?_
          exact ih (i + 1) f sm (by omega) (by omega) (by rw [cntN_f (by simp [c1, c3]), hf]) (by show sm = sumN (fun o => if g 4 o = nI k then g 13 o else 0) i + _; rw [← hs]; simp [c1, c3]) _ (lv_sub hl [1, 2, 3, 4, 0] rfl)
        · refine lv_iinc (v := (nI (f + 1))) (lv' := [(2, .int (nI (f + 1))), (0, .ref (ad 0)), (1, .int (nI k)), (3, .int sm), (4, .int (nI i))]) hx hb d_M_difference_33 hl (k := 2) rfl (q_inc _) (by decide) rfl (fun ls hl => ?_)
          refine lv_iload_n hx hb d_M_difference_36 rfl (lv_at hl 3 rfl) ?_
          refine lv_aload_n hx hb d_M_difference_37 rfl (lv_at hl 1 rfl) ?_
          refine va_get (D := D) (ci := 0) (v := .ref (ad 9)) (C := R_M) (T := F_M) (N := 5) hx hb htb iw_M hown hK hP 0 rfl rfl 1 (by decide) (htb _ mw_162) (fun _ h9 => h9) rfl d_M_difference_38 ?_
          refine va_get (D := D) (ci := 2) (v := .ref (ad 13)) (C := R_N) (T := F_N) (N := 6) hx hb htb iw_N hown hK hP 9 rfl rfl 4 (by decide) (htb _ mw_102) (fun _ h9 => h9) rfl d_M_difference_41 ?_
          refine lv_iload hx hb d_M_difference_44 (lv_at hl 4 rfl) ?_
          refine q_iald hx hb hK hP 13 10 rfl rfl i (by omega) (by decide) d_M_difference_46 ?_
          refine lv_iadd hx hb d_M_difference_47 ?_
          refine lv_istore_n (lv' := [(3, .int (sm + (g 13 i))), (2, .int (nI (f + 1))), (0, .ref (ad 0)), (1, .int (nI k)), (4, .int (nI i))]) hx hb d_M_difference_48 rfl hl (by decide) rfl (fun ls hl => ?_)
          refine lv_iinc (v := (nI (i + 1))) (lv' := [(4, .int (nI (i + 1))), (3, .int (sm + (g 13 i))), (2, .int (nI (f + 1))), (0, .ref (ad 0)), (1, .int (nI k))]) hx hb d_M_difference_49 hl (k := 4) rfl (q_inc _) (by decide) rfl (fun ls hl => ?_)
          refine lv_goto (tgt := 7) hx hb d_M_difference_52 (by decide) ?_
          exact ih (i + 1) (f + 1) (sm + (g 13 i)) (by omega) (by omega) (by rw [cntN_t (by simp [c1, c3]), hf]) (by show (sm + (g 13 i)) = sumN (fun o => if g 4 o = nI k then g 13 o else 0) i + _; rw [← hs]; simp [c1, c3]) _ (lv_sub hl [3, 4, 2, 1, 0] rfl)
  exact lp7 (nb + 1) 0 0 0 (Nat.zero_le _) (by omega) rfl rfl _ (lv_sub hl [3, 4, 2, 1, 0] rfl)
set_option maxHeartbeats 4000000 in
set_option maxRecDepth 100000 in
theorem c_M_someOneDiffers (l : Launch) (D : va_G) (ad : Nat → Nat) (kd : Nat → ClassId) (g : Nat → Nat → Int32) (z : Nat → Int64) (v : Nat → Int32) (nb : Nat) (hnb : v 2 = nI nb) (hb6 : nb ≤ 60) (x : Int32) : RD l y_M_someOneDiffers (.code y_M_someOneDiffers b_M_someOneDiffers 3 (some .boolean) :: TB) ({ frames := 1, cells := 0, slots := 0, locals := 24 } : Room) [.ref (ad 0), .int x] D classes (wA ad kd g z v) (tA kd) (bI (sodB g nb x)) := by
  refine rd_of (by decide +kernel) (bI_nar _) (Nat.le_of_ble_eq_true rfl) ?_
  intro p e s m args below meth c Q ls hx hb hml htb hown hP hK hl hret
  have hl : lv_has ls 3 [(0, .ref (ad 0)), (1, .int x)] := hl
  refine lv_iconst (v := 0) hx hb d_M_someOneDiffers_0 (by decide) ?_
  refine lv_istore_n (lv' := [(2, .int 0), (0, .ref (ad 0)), (1, .int x)]) hx hb d_M_someOneDiffers_1 rfl hl (by decide) rfl (fun ls hl => ?_)
  have lp2 : ∀ (n : Nat) (i : Nat), i ≤ nb → nb + 1 ≤ i + n → anyN (fun b => decide (g 6 b = x) && !decide (difB g nb b = 0)) i = false → ∀ (ls : Array Slot), lv_has ls 3 [(0, .ref (ad 0)), (1, .int x), (2, .int (nI i))] → W p l e ({ frames := 1, cells := 0, slots := 0, locals := 24 } : Room) s m args below meth c s.heap [] 0 0 Q (F0 m 2 ls []) := by
    intro n
    induction n with
    | zero => intro i hi hm hf ls hl; exact absurd hm (by omega)
    | succ n ih =>
      intro i hi hm hf ls hl
      refine lv_iload_n hx hb d_M_someOneDiffers_2 rfl (lv_at hl 2 rfl) ?_
      refine lv_aload_n hx hb d_M_someOneDiffers_3 rfl (lv_at hl 0 rfl) ?_
      refine va_get (D := D) (ci := 0) (v := .ref (ad 1)) (C := R_M) (T := F_M) (N := 5) hx hb htb iw_M hown hK hP 0 rfl rfl 0 (by decide) (htb _ mw_161) (fun _ h9 => h9) rfl d_M_someOneDiffers_4 ?_
      refine va_get (D := D) (ci := 1) (v := .int (nI nb)) (C := R_B) (T := F_B) (N := 8) hx hb htb iw_B hown hK hP 1 rfl rfl 0 (by decide) (htb _ mw_56) (fun _ h9 => h9) (congrArg (fun x => some (Value.int x)) hnb) d_M_someOneDiffers_7 ?_
      refine q_icmp_ge (a := i) (b := nb) (tgt := 42) hx hb (by omega) (by omega) d_M_someOneDiffers_10 (by decide) (fun c1 => ?_) (fun c1 => ?_)
      · refine lv_iconst (v := 0) hx hb d_M_someOneDiffers_42 (by decide) ?_
        exact hret _ _ _ (by rw [show i = nb by omega] at hf; show 0 = bI (anyN (fun b => decide (g 6 b = x) && !decide (difB g nb b = 0)) nb); rw [hf]; rfl) d_M_someOneDiffers_43
      · refine lv_aload_n hx hb d_M_someOneDiffers_13 rfl (lv_at hl 0 rfl) ?_
        refine va_get (D := D) (ci := 0) (v := .ref (ad 1)) (C := R_M) (T := F_M) (N := 5) hx hb htb iw_M hown hK hP 0 rfl rfl 0 (by decide) (htb _ mw_161) (fun _ h9 => h9) rfl d_M_someOneDiffers_14 ?_
        refine va_get (D := D) (ci := 1) (v := .ref (ad 6)) (C := R_B) (T := F_B) (N := 8) hx hb htb iw_B hown hK hP 1 rfl rfl 5 (by decide) (htb _ mw_66) (fun _ h9 => h9) rfl d_M_someOneDiffers_17 ?_
        refine lv_iload_n hx hb d_M_someOneDiffers_20 rfl (lv_at hl 2 rfl) ?_
        refine q_iald hx hb hK hP 6 4 rfl rfl i (by omega) (by decide) d_M_someOneDiffers_21 ?_
        refine lv_iload_n hx hb d_M_someOneDiffers_22 rfl (lv_at hl 1 rfl) ?_
        refine lv_icmp_ne (tgt := 36) hx hb d_M_someOneDiffers_23 (by decide) (fun c2 => ?_) (fun c2 => ?_)
        · refine lv_iinc (v := (nI (i + 1))) (lv' := [(2, .int (nI (i + 1))), (0, .ref (ad 0)), (1, .int x)]) hx hb d_M_someOneDiffers_36 hl (k := 2) rfl (q_inc _) (by decide) rfl (fun ls hl => ?_)
          refine lv_goto (tgt := 2) hx hb d_M_someOneDiffers_39 (by decide) ?_
          exact ih (i + 1) (by omega) (by omega) (by simp [anyN, hf, c1, c2]) _ (lv_sub hl [1, 2, 0] rfl)
        · refine lv_aload_n hx hb d_M_someOneDiffers_26 rfl (lv_at hl 0 rfl) ?_
          refine lv_iload_n hx hb d_M_someOneDiffers_27 rfl (lv_at hl 2 rfl) ?_
          refine rdV (As := [.int (nI i)]) (rest := []) (b := ad 0) ⟨hx, hb, hml, hown, htb⟩ (c_M_difference l D ad kd g z v nb hnb hb6 i (by omega)) (cwV (C := R_M) 1 htb (gV tb_good mw_278 mw_280 mw_3 mw_27 mw_281) rfl rfl rfl (by decide +kernel) ⟨Nat.le_of_ble_eq_true rfl, Nat.le_of_ble_eq_true rfl⟩) hP hK (va_recv hK hP (ci := 0) (q0 := 0) rfl rfl) rfl hl.1 rfl (lv_room (Nat.le_of_ble_eq_true rfl)) d_M_someOneDiffers_28 ⟨Nat.zero_le _, Nat.zero_le _⟩ ?_
          refine lv_if_eq (tgt := 36) hx hb d_M_someOneDiffers_31 (by decide) (fun c3 => ?_) (fun c3 => ?_)
          · refine lv_iinc (v := (nI (i + 1))) (lv' := [(2, .int (nI (i + 1))), (0, .ref (ad 0)), (1, .int x)]) hx hb d_M_someOneDiffers_36 hl (k := 2) rfl (q_inc _) (by decide) rfl (fun ls hl => ?_)
            refine lv_goto (tgt := 2) hx hb d_M_someOneDiffers_39 (by decide) ?_
            exact ih (i + 1) (by omega) (by omega) (by simp [anyN, hf, c1, c2, c3]) _ (lv_sub hl [1, 2, 0] rfl)
          · refine lv_iconst (v := 1) hx hb d_M_someOneDiffers_34 (by decide) ?_
            exact hret _ _ _ (by show 1 = bI (anyN (fun b => decide (g 6 b = x) && !decide (difB g nb b = 0)) nb); rw [anyN_hit (i := i) (by simp [c1, c2, c3]) (by omega)]; rfl) d_M_someOneDiffers_35
  exact lp2 (nb + 1) 0 (Nat.zero_le _) (by omega) rfl _ (lv_sub hl [1, 2, 0] rfl)
set_option maxHeartbeats 4000000 in
set_option maxRecDepth 100000 in
theorem c_M_mastersThatDiffer (l : Launch) (D : va_G) (ad : Nat → Nat) (kd : Nat → ClassId) (g : Nat → Nat → Int32) (z : Nat → Int64) (v : Nat → Int32) (nb : Nat) (hnb : v 2 = nI nb) (hb6 : nb ≤ 60) : RD l y_M_mastersThatDiffer (.code y_M_mastersThatDiffer b_M_mastersThatDiffer 3 (some .int) :: TB) ({ frames := 2, cells := 0, slots := 0, locals := 46 } : Room) [.ref (ad 0)] D classes (wA ad kd g z v) (tA kd) (nI (mtdB g nb)) := by
  refine rd_of (by decide +kernel) (rfl) (Nat.le_of_ble_eq_true rfl) ?_
  intro p e s m args below meth c Q ls hx hb hml htb hown hP hK hl hret
  have hl : lv_has ls 3 [(0, .ref (ad 0))] := hl
  refine lv_iconst (v := 0) hx hb d_M_mastersThatDiffer_0 (by decide) ?_
  refine lv_istore_n (lv' := [(1, .int 0), (0, .ref (ad 0))]) hx hb d_M_mastersThatDiffer_1 rfl hl (by decide) rfl (fun ls hl => ?_)
  refine lv_iconst (v := 0) hx hb d_M_mastersThatDiffer_2 (by decide) ?_
  refine lv_istore_n (lv' := [(2, .int 0), (1, .int 0), (0, .ref (ad 0))]) hx hb d_M_mastersThatDiffer_3 rfl hl (by decide) rfl (fun ls hl => ?_)
  have lp4 : ∀ (n : Nat) (i : Nat) (f : Nat), i ≤ nb → nb + 1 ≤ i + n → f = cntN (fun b => decide (g 6 b = nI b) && sodB g nb (nI b)) i → ∀ (ls : Array Slot), lv_has ls 3 [(0, .ref (ad 0)), (1, .int (nI f)), (2, .int (nI i))] → W p l e ({ frames := 2, cells := 0, slots := 0, locals := 46 } : Room) s m args below meth c s.heap [] 0 0 Q (F0 m 4 ls []) := by
    intro n
    induction n with
    | zero => intro i f hi hm hf ls hl; exact absurd hm (by omega)
    | succ n ih =>
      intro i f hi hm hf ls hl
      refine lv_iload_n hx hb d_M_mastersThatDiffer_4 rfl (lv_at hl 2 rfl) ?_
      refine lv_aload_n hx hb d_M_mastersThatDiffer_5 rfl (lv_at hl 0 rfl) ?_
      refine va_get (D := D) (ci := 0) (v := .ref (ad 1)) (C := R_M) (T := F_M) (N := 5) hx hb htb iw_M hown hK hP 0 rfl rfl 0 (by decide) (htb _ mw_161) (fun _ h9 => h9) rfl d_M_mastersThatDiffer_6 ?_
      refine va_get (D := D) (ci := 1) (v := .int (nI nb)) (C := R_B) (T := F_B) (N := 8) hx hb htb iw_B hown hK hP 1 rfl rfl 0 (by decide) (htb _ mw_56) (fun _ h9 => h9) (congrArg (fun x => some (Value.int x)) hnb) d_M_mastersThatDiffer_9 ?_
      refine q_icmp_ge (a := i) (b := nb) (tgt := 45) hx hb (by omega) (by omega) d_M_mastersThatDiffer_12 (by decide) (fun c1 => ?_) (fun c1 => ?_)
      · refine lv_iload_n hx hb d_M_mastersThatDiffer_45 rfl (lv_at hl 1 rfl) ?_
        exact hret _ _ _ (by rw [show i = nb by omega] at hf; rw [hf]; rfl) d_M_mastersThatDiffer_46
      · refine lv_aload_n hx hb d_M_mastersThatDiffer_15 rfl (lv_at hl 0 rfl) ?_
        refine va_get (D := D) (ci := 0) (v := .ref (ad 1)) (C := R_M) (T := F_M) (N := 5) hx hb htb iw_M hown hK hP 0 rfl rfl 0 (by decide) (htb _ mw_161) (fun _ h9 => h9) rfl d_M_mastersThatDiffer_16 ?_
        refine va_get (D := D) (ci := 1) (v := .ref (ad 6)) (C := R_B) (T := F_B) (N := 8) hx hb htb iw_B hown hK hP 1 rfl rfl 5 (by decide) (htb _ mw_66) (fun _ h9 => h9) rfl d_M_mastersThatDiffer_19 ?_
        refine lv_iload_n hx hb d_M_mastersThatDiffer_22 rfl (lv_at hl 2 rfl) ?_
        refine q_iald hx hb hK hP 6 4 rfl rfl i (by omega) (by decide) d_M_mastersThatDiffer_23 ?_
        refine lv_iload_n hx hb d_M_mastersThatDiffer_24 rfl (lv_at hl 2 rfl) ?_
        refine lv_icmp_ne (tgt := 39) hx hb d_M_mastersThatDiffer_25 (by decide) (fun c2 => ?_) (fun c2 => ?_)
        · refine lv_iinc (v := (nI (i + 1))) (lv' := [(2, .int (nI (i + 1))), (0, .ref (ad 0)), (1, .int (nI f))]) hx hb d_M_mastersThatDiffer_39 hl (k := 2) rfl (q_inc _) (by decide) rfl (fun ls hl => ?_)
          refine lv_goto (tgt := 4) hx hb d_M_mastersThatDiffer_42 (by decide) ?_
          exact ih (i + 1) f (by omega) (by omega) (by rw [cntN_f (by simp [c1, c2]), hf]) _ (lv_sub hl [1, 2, 0] rfl)
        · refine lv_aload_n hx hb d_M_mastersThatDiffer_28 rfl (lv_at hl 0 rfl) ?_
          refine lv_iload_n hx hb d_M_mastersThatDiffer_29 rfl (lv_at hl 2 rfl) ?_
          refine rdV (As := [.int (nI i)]) (rest := []) (b := ad 0) ⟨hx, hb, hml, hown, htb⟩ (c_M_someOneDiffers l D ad kd g z v nb hnb hb6 (nI i)) (cwV (C := R_M) 1 htb (gV tb_good mw_274 mw_276 mw_2 mw_27 mw_277) rfl rfl rfl (by decide +kernel) ⟨Nat.le_of_ble_eq_true rfl, Nat.le_of_ble_eq_true rfl⟩) hP hK (va_recv hK hP (ci := 0) (q0 := 0) rfl rfl) rfl hl.1 rfl (lv_room (Nat.le_of_ble_eq_true rfl)) d_M_mastersThatDiffer_30 ⟨Nat.zero_le _, Nat.zero_le _⟩ ?_
          refine lv_if_eq (tgt := 39) hx hb d_M_mastersThatDiffer_33 (by decide) (fun c3 => ?_) (fun c3 => ?_)
          · replace c3 := bI_f c3
            refine lv_iinc (v := (nI (i + 1))) (lv' := [(2, .int (nI (i + 1))), (0, .ref (ad 0)), (1, .int (nI f))]) hx hb d_M_mastersThatDiffer_39 hl (k := 2) rfl (q_inc _) (by decide) rfl (fun ls hl => ?_)
            refine lv_goto (tgt := 4) hx hb d_M_mastersThatDiffer_42 (by decide) ?_
            exact ih (i + 1) f (by omega) (by omega) (by rw [cntN_f (by simp [c1, c2, c3]), hf]) _ (lv_sub hl [1, 2, 0] rfl)
          · replace c3 := bI_t c3
            refine lv_iinc (v := (nI (f + 1))) (lv' := [(1, .int (nI (f + 1))), (0, .ref (ad 0)), (2, .int (nI i))]) hx hb d_M_mastersThatDiffer_36 hl (k := 1) rfl (q_inc _) (by decide) rfl (fun ls hl => ?_)
            refine lv_iinc (v := (nI (i + 1))) (lv' := [(2, .int (nI (i + 1))), (1, .int (nI (f + 1))), (0, .ref (ad 0))]) hx hb d_M_mastersThatDiffer_39 hl (k := 2) rfl (q_inc _) (by decide) rfl (fun ls hl => ?_)
            refine lv_goto (tgt := 4) hx hb d_M_mastersThatDiffer_42 (by decide) ?_
            exact ih (i + 1) (f + 1) (by omega) (by omega) (by rw [cntN_t (by simp [c1, c2, c3]), hf]) _ (lv_sub hl [2, 1, 0] rfl)
  exact lp4 (nb + 1) 0 0 (Nat.zero_le _) (by omega) rfl _ (lv_sub hl [2, 1, 0] rfl)
end
section
def w0_B (h0 : Nat) (u : AK) : va_W := [(h0, .inr (1, [.int 0, .ref (u.1 2), .ref (u.1 3), .ref (u.1 4), .ref (u.1 5), .ref (u.1 6), .ref (u.1 7), .ref (u.1 8)])), (u.1 2, .inl (u.2 2, 60, .inl fun _ => 0)), (u.1 3, .inl (u.2 3, 60, .inl fun _ => 0)), (u.1 4, .inl (u.2 4, 60, .inl fun _ => 0)), (u.1 5, .inl (u.2 5, 60, .inl fun _ => 0)), (u.1 6, .inl (u.2 6, 60, .inl fun _ => 0)), (u.1 7, .inl (u.2 7, 60, .inl fun _ => 0)), (u.1 8, .inl (u.2 8, 60, .inl fun _ => 0))]
def t0_B (u : AK) : List (ClassId × FieldType) := [(u.2 2, .int), (u.2 3, .int), (u.2 4, .int), (u.2 5, .int), (u.2 6, .int), (u.2 7, .int), (u.2 8, .int)]
set_option maxHeartbeats 4000000 in
set_option maxRecDepth 100000 in
theorem c_B_init (l : Launch) (D : va_G) (h0 : Nat) : CT l y_B_init (.code y_B_init b_B_init 1 none :: TB) ({ frames := 1, cells := 7, slots := 420, locals := 12 } : Room) [.ref h0] D classes [(h0, .inr (1, [.int 0, .null, .null, .null, .null, .null, .null, .null]))] (w0_B h0) t0_B 7 420 := by
  refine ct_of (by decide +kernel) rfl (Nat.le_of_ble_eq_true rfl) ?_
  intro p e s m args below meth c Q ls A hx hb hml htb hown hin hP hK hD hS hA hl hret
  have hl : lv_has ls 1 [(0, .ref h0)] := hl
  refine lv_aload_n hx hb d_B_init_0 rfl (lv_at hl 0 rfl) ?_
  refine W.objInit hx hb hown (htb _ mw_54) (htb _ mw_47) (htb _ mw_48) rfl (by rw [hml]; exact hl.1) rfl d_B_init_1 (Nat.le_of_ble_eq_true rfl) (Nat.le_of_ble_eq_true rfl) ?_
  refine W.eq (g2 := F0 m 4 ls []) rfl ?_
  refine lv_aload_n hx hb d_B_init_4 rfl (lv_at hl 0 rfl) ?_
  refine lv_iconst (v := 0) hx hb d_B_init_5 (by decide) ?_
  refine va_put (D := D) (ci := 1) (v := .int 0) (ty := .int) (C := R_B) (T := F_B) (N := 8) hx hb htb iw_B t_B t_B_ok n_B hown hK hP hD hS 0 rfl rfl 0 (by decide) (htb _ mw_55) (fun _ h9 => h9) rfl (by decide +kernel) rfl rfl (Nat.le_of_ble_eq_true rfl) d_B_init_6 (fun H locs hP hD hS => ?_)
  have hP : va_P D classes [(h0, .inr (1, [.int 0, .null, .null, .null, .null, .null, .null, .null]))] H := hP
  have hD : va_D A [(h0, .inr (1, [.int 0, .null, .null, .null, .null, .null, .null, .null]))] := hD
  refine lv_aload_n hx hb d_B_init_9 rfl (lv_at hl 0 rfl) ?_
  refine lv_bipush (v := 60) hx hb d_B_init_10 (by decide) ?_
  refine va_newa (atype := .int) (ty := .int) (a0 := (60, .inl fun _ => 0)) (N' := 60) hx hb (htb _ mw_88) rfl hK hP hD hS hA (fun _ => rfl) (by decide) (by decide) (by decide) (Nat.le_of_ble_eq_true rfl) (Nat.le_of_ble_eq_true rfl) d_B_init_12 (fun q12 k12 H hK hP hD hS => ?_)
  have hP : va_P D classes [(h0, .inr (1, [.int 0, .null, .null, .null, .null, .null, .null, .null])), (q12, .inl (k12, 60, .inl fun _ => 0))] H := hP
  have hD : va_D A [(h0, .inr (1, [.int 0, .null, .null, .null, .null, .null, .null, .null])), (q12, .inl (k12, 60, .inl fun _ => 0))] := hD
  have hK : va_K D classes [(k12, .int)] s := hK
  refine va_putF (D := D) (ci := 1) (v := .ref q12) (ty := .array .int) (C := R_B) (T := F_B) (N := 8) hx hb htb iw_B t_B t_B_ok n_B hown hK hP hD hS 0 rfl rfl 1 (by decide) (htb _ mw_57) (fun _ h9 => h9) rfl hin rfl (by decide +kernel) rfl rfl (Nat.le_of_ble_eq_true rfl) d_B_init_14 (fun H locs hP hD hS => ?_)
  have hP : va_P D classes [(h0, .inr (1, [.int 0, .ref q12, .null, .null, .null, .null, .null, .null])), (q12, .inl (k12, 60, .inl fun _ => 0))] H := hP
  have hD : va_D A [(h0, .inr (1, [.int 0, .ref q12, .null, .null, .null, .null, .null, .null])), (q12, .inl (k12, 60, .inl fun _ => 0))] := hD
  refine lv_aload_n hx hb d_B_init_17 rfl (lv_at hl 0 rfl) ?_
  refine lv_bipush (v := 60) hx hb d_B_init_18 (by decide) ?_
  refine va_newa (atype := .int) (ty := .int) (a0 := (60, .inl fun _ => 0)) (N' := 60) hx hb (htb _ mw_88) rfl hK hP hD hS hA (fun _ => rfl) (by decide) (by decide) (by decide) (Nat.le_of_ble_eq_true rfl) (Nat.le_of_ble_eq_true rfl) d_B_init_20 (fun q20 k20 H hK hP hD hS => ?_)
  have hP : va_P D classes [(h0, .inr (1, [.int 0, .ref q12, .null, .null, .null, .null, .null, .null])), (q12, .inl (k12, 60, .inl fun _ => 0)), (q20, .inl (k20, 60, .inl fun _ => 0))] H := hP
  have hD : va_D A [(h0, .inr (1, [.int 0, .ref q12, .null, .null, .null, .null, .null, .null])), (q12, .inl (k12, 60, .inl fun _ => 0)), (q20, .inl (k20, 60, .inl fun _ => 0))] := hD
  have hK : va_K D classes [(k12, .int), (k20, .int)] s := hK
  refine va_putF (D := D) (ci := 1) (v := .ref q20) (ty := .array .int) (C := R_B) (T := F_B) (N := 8) hx hb htb iw_B t_B t_B_ok n_B hown hK hP hD hS 0 rfl rfl 2 (by decide) (htb _ mw_59) (fun _ h9 => h9) rfl hin rfl (by decide +kernel) rfl rfl (Nat.le_of_ble_eq_true rfl) d_B_init_22 (fun H locs hP hD hS => ?_)
  have hP : va_P D classes [(h0, .inr (1, [.int 0, .ref q12, .ref q20, .null, .null, .null, .null, .null])), (q12, .inl (k12, 60, .inl fun _ => 0)), (q20, .inl (k20, 60, .inl fun _ => 0))] H := hP
  have hD : va_D A [(h0, .inr (1, [.int 0, .ref q12, .ref q20, .null, .null, .null, .null, .null])), (q12, .inl (k12, 60, .inl fun _ => 0)), (q20, .inl (k20, 60, .inl fun _ => 0))] := hD
  refine lv_aload_n hx hb d_B_init_25 rfl (lv_at hl 0 rfl) ?_
  refine lv_bipush (v := 60) hx hb d_B_init_26 (by decide) ?_
  refine va_newa (atype := .int) (ty := .int) (a0 := (60, .inl fun _ => 0)) (N' := 60) hx hb (htb _ mw_88) rfl hK hP hD hS hA (fun _ => rfl) (by decide) (by decide) (by decide) (Nat.le_of_ble_eq_true rfl) (Nat.le_of_ble_eq_true rfl) d_B_init_28 (fun q28 k28 H hK hP hD hS => ?_)
  have hP : va_P D classes [(h0, .inr (1, [.int 0, .ref q12, .ref q20, .null, .null, .null, .null, .null])), (q12, .inl (k12, 60, .inl fun _ => 0)), (q20, .inl (k20, 60, .inl fun _ => 0)), (q28, .inl (k28, 60, .inl fun _ => 0))] H := hP
  have hD : va_D A [(h0, .inr (1, [.int 0, .ref q12, .ref q20, .null, .null, .null, .null, .null])), (q12, .inl (k12, 60, .inl fun _ => 0)), (q20, .inl (k20, 60, .inl fun _ => 0)), (q28, .inl (k28, 60, .inl fun _ => 0))] := hD
  have hK : va_K D classes [(k12, .int), (k20, .int), (k28, .int)] s := hK
  refine va_putF (D := D) (ci := 1) (v := .ref q28) (ty := .array .int) (C := R_B) (T := F_B) (N := 8) hx hb htb iw_B t_B t_B_ok n_B hown hK hP hD hS 0 rfl rfl 3 (by decide) (htb _ mw_61) (fun _ h9 => h9) rfl hin rfl (by decide +kernel) rfl rfl (Nat.le_of_ble_eq_true rfl) d_B_init_30 (fun H locs hP hD hS => ?_)
  have hP : va_P D classes [(h0, .inr (1, [.int 0, .ref q12, .ref q20, .ref q28, .null, .null, .null, .null])), (q12, .inl (k12, 60, .inl fun _ => 0)), (q20, .inl (k20, 60, .inl fun _ => 0)), (q28, .inl (k28, 60, .inl fun _ => 0))] H := hP
  have hD : va_D A [(h0, .inr (1, [.int 0, .ref q12, .ref q20, .ref q28, .null, .null, .null, .null])), (q12, .inl (k12, 60, .inl fun _ => 0)), (q20, .inl (k20, 60, .inl fun _ => 0)), (q28, .inl (k28, 60, .inl fun _ => 0))] := hD
  refine lv_aload_n hx hb d_B_init_33 rfl (lv_at hl 0 rfl) ?_
  refine lv_bipush (v := 60) hx hb d_B_init_34 (by decide) ?_
  refine va_newa (atype := .int) (ty := .int) (a0 := (60, .inl fun _ => 0)) (N' := 60) hx hb (htb _ mw_88) rfl hK hP hD hS hA (fun _ => rfl) (by decide) (by decide) (by decide) (Nat.le_of_ble_eq_true rfl) (Nat.le_of_ble_eq_true rfl) d_B_init_36 (fun q36 k36 H hK hP hD hS => ?_)
  have hP : va_P D classes [(h0, .inr (1, [.int 0, .ref q12, .ref q20, .ref q28, .null, .null, .null, .null])), (q12, .inl (k12, 60, .inl fun _ => 0)), (q20, .inl (k20, 60, .inl fun _ => 0)), (q28, .inl (k28, 60, .inl fun _ => 0)), (q36, .inl (k36, 60, .inl fun _ => 0))] H := hP
  have hD : va_D A [(h0, .inr (1, [.int 0, .ref q12, .ref q20, .ref q28, .null, .null, .null, .null])), (q12, .inl (k12, 60, .inl fun _ => 0)), (q20, .inl (k20, 60, .inl fun _ => 0)), (q28, .inl (k28, 60, .inl fun _ => 0)), (q36, .inl (k36, 60, .inl fun _ => 0))] := hD
  have hK : va_K D classes [(k12, .int), (k20, .int), (k28, .int), (k36, .int)] s := hK
  refine va_putF (D := D) (ci := 1) (v := .ref q36) (ty := .array .int) (C := R_B) (T := F_B) (N := 8) hx hb htb iw_B t_B t_B_ok n_B hown hK hP hD hS 0 rfl rfl 4 (by decide) (htb _ mw_63) (fun _ h9 => h9) rfl hin rfl (by decide +kernel) rfl rfl (Nat.le_of_ble_eq_true rfl) d_B_init_38 (fun H locs hP hD hS => ?_)
  have hP : va_P D classes [(h0, .inr (1, [.int 0, .ref q12, .ref q20, .ref q28, .ref q36, .null, .null, .null])), (q12, .inl (k12, 60, .inl fun _ => 0)), (q20, .inl (k20, 60, .inl fun _ => 0)), (q28, .inl (k28, 60, .inl fun _ => 0)), (q36, .inl (k36, 60, .inl fun _ => 0))] H := hP
  have hD : va_D A [(h0, .inr (1, [.int 0, .ref q12, .ref q20, .ref q28, .ref q36, .null, .null, .null])), (q12, .inl (k12, 60, .inl fun _ => 0)), (q20, .inl (k20, 60, .inl fun _ => 0)), (q28, .inl (k28, 60, .inl fun _ => 0)), (q36, .inl (k36, 60, .inl fun _ => 0))] := hD
  refine lv_aload_n hx hb d_B_init_41 rfl (lv_at hl 0 rfl) ?_
  refine lv_bipush (v := 60) hx hb d_B_init_42 (by decide) ?_
  refine va_newa (atype := .int) (ty := .int) (a0 := (60, .inl fun _ => 0)) (N' := 60) hx hb (htb _ mw_88) rfl hK hP hD hS hA (fun _ => rfl) (by decide) (by decide) (by decide) (Nat.le_of_ble_eq_true rfl) (Nat.le_of_ble_eq_true rfl) d_B_init_44 (fun q44 k44 H hK hP hD hS => ?_)
  have hP : va_P D classes [(h0, .inr (1, [.int 0, .ref q12, .ref q20, .ref q28, .ref q36, .null, .null, .null])), (q12, .inl (k12, 60, .inl fun _ => 0)), (q20, .inl (k20, 60, .inl fun _ => 0)), (q28, .inl (k28, 60, .inl fun _ => 0)), (q36, .inl (k36, 60, .inl fun _ => 0)), (q44, .inl (k44, 60, .inl fun _ => 0))] H := hP
  have hD : va_D A [(h0, .inr (1, [.int 0, .ref q12, .ref q20, .ref q28, .ref q36, .null, .null, .null])), (q12, .inl (k12, 60, .inl fun _ => 0)), (q20, .inl (k20, 60, .inl fun _ => 0)), (q28, .inl (k28, 60, .inl fun _ => 0)), (q36, .inl (k36, 60, .inl fun _ => 0)), (q44, .inl (k44, 60, .inl fun _ => 0))] := hD
  have hK : va_K D classes [(k12, .int), (k20, .int), (k28, .int), (k36, .int), (k44, .int)] s := hK
  refine va_putF (D := D) (ci := 1) (v := .ref q44) (ty := .array .int) (C := R_B) (T := F_B) (N := 8) hx hb htb iw_B t_B t_B_ok n_B hown hK hP hD hS 0 rfl rfl 5 (by decide) (htb _ mw_65) (fun _ h9 => h9) rfl hin rfl (by decide +kernel) rfl rfl (Nat.le_of_ble_eq_true rfl) d_B_init_46 (fun H locs hP hD hS => ?_)
  have hP : va_P D classes [(h0, .inr (1, [.int 0, .ref q12, .ref q20, .ref q28, .ref q36, .ref q44, .null, .null])), (q12, .inl (k12, 60, .inl fun _ => 0)), (q20, .inl (k20, 60, .inl fun _ => 0)), (q28, .inl (k28, 60, .inl fun _ => 0)), (q36, .inl (k36, 60, .inl fun _ => 0)), (q44, .inl (k44, 60, .inl fun _ => 0))] H := hP
  have hD : va_D A [(h0, .inr (1, [.int 0, .ref q12, .ref q20, .ref q28, .ref q36, .ref q44, .null, .null])), (q12, .inl (k12, 60, .inl fun _ => 0)), (q20, .inl (k20, 60, .inl fun _ => 0)), (q28, .inl (k28, 60, .inl fun _ => 0)), (q36, .inl (k36, 60, .inl fun _ => 0)), (q44, .inl (k44, 60, .inl fun _ => 0))] := hD
  refine lv_aload_n hx hb d_B_init_49 rfl (lv_at hl 0 rfl) ?_
  refine lv_bipush (v := 60) hx hb d_B_init_50 (by decide) ?_
  refine va_newa (atype := .int) (ty := .int) (a0 := (60, .inl fun _ => 0)) (N' := 60) hx hb (htb _ mw_88) rfl hK hP hD hS hA (fun _ => rfl) (by decide) (by decide) (by decide) (Nat.le_of_ble_eq_true rfl) (Nat.le_of_ble_eq_true rfl) d_B_init_52 (fun q52 k52 H hK hP hD hS => ?_)
  have hP : va_P D classes [(h0, .inr (1, [.int 0, .ref q12, .ref q20, .ref q28, .ref q36, .ref q44, .null, .null])), (q12, .inl (k12, 60, .inl fun _ => 0)), (q20, .inl (k20, 60, .inl fun _ => 0)), (q28, .inl (k28, 60, .inl fun _ => 0)), (q36, .inl (k36, 60, .inl fun _ => 0)), (q44, .inl (k44, 60, .inl fun _ => 0)), (q52, .inl (k52, 60, .inl fun _ => 0))] H := hP
  have hD : va_D A [(h0, .inr (1, [.int 0, .ref q12, .ref q20, .ref q28, .ref q36, .ref q44, .null, .null])), (q12, .inl (k12, 60, .inl fun _ => 0)), (q20, .inl (k20, 60, .inl fun _ => 0)), (q28, .inl (k28, 60, .inl fun _ => 0)), (q36, .inl (k36, 60, .inl fun _ => 0)), (q44, .inl (k44, 60, .inl fun _ => 0)), (q52, .inl (k52, 60, .inl fun _ => 0))] := hD
  have hK : va_K D classes [(k12, .int), (k20, .int), (k28, .int), (k36, .int), (k44, .int), (k52, .int)] s := hK
  refine va_putF (D := D) (ci := 1) (v := .ref q52) (ty := .array .int) (C := R_B) (T := F_B) (N := 8) hx hb htb iw_B t_B t_B_ok n_B hown hK hP hD hS 0 rfl rfl 6 (by decide) (htb _ mw_67) (fun _ h9 => h9) rfl hin rfl (by decide +kernel) rfl rfl (Nat.le_of_ble_eq_true rfl) d_B_init_54 (fun H locs hP hD hS => ?_)
  have hP : va_P D classes [(h0, .inr (1, [.int 0, .ref q12, .ref q20, .ref q28, .ref q36, .ref q44, .ref q52, .null])), (q12, .inl (k12, 60, .inl fun _ => 0)), (q20, .inl (k20, 60, .inl fun _ => 0)), (q28, .inl (k28, 60, .inl fun _ => 0)), (q36, .inl (k36, 60, .inl fun _ => 0)), (q44, .inl (k44, 60, .inl fun _ => 0)), (q52, .inl (k52, 60, .inl fun _ => 0))] H := hP
  have hD : va_D A [(h0, .inr (1, [.int 0, .ref q12, .ref q20, .ref q28, .ref q36, .ref q44, .ref q52, .null])), (q12, .inl (k12, 60, .inl fun _ => 0)), (q20, .inl (k20, 60, .inl fun _ => 0)), (q28, .inl (k28, 60, .inl fun _ => 0)), (q36, .inl (k36, 60, .inl fun _ => 0)), (q44, .inl (k44, 60, .inl fun _ => 0)), (q52, .inl (k52, 60, .inl fun _ => 0))] := hD
  refine lv_aload_n hx hb d_B_init_57 rfl (lv_at hl 0 rfl) ?_
  refine lv_bipush (v := 60) hx hb d_B_init_58 (by decide) ?_
  refine va_newa (atype := .int) (ty := .int) (a0 := (60, .inl fun _ => 0)) (N' := 60) hx hb (htb _ mw_88) rfl hK hP hD hS hA (fun _ => rfl) (by decide) (by decide) (by decide) (Nat.le_of_ble_eq_true rfl) (Nat.le_of_ble_eq_true rfl) d_B_init_60 (fun q60 k60 H hK hP hD hS => ?_)
  have hP : va_P D classes [(h0, .inr (1, [.int 0, .ref q12, .ref q20, .ref q28, .ref q36, .ref q44, .ref q52, .null])), (q12, .inl (k12, 60, .inl fun _ => 0)), (q20, .inl (k20, 60, .inl fun _ => 0)), (q28, .inl (k28, 60, .inl fun _ => 0)), (q36, .inl (k36, 60, .inl fun _ => 0)), (q44, .inl (k44, 60, .inl fun _ => 0)), (q52, .inl (k52, 60, .inl fun _ => 0)), (q60, .inl (k60, 60, .inl fun _ => 0))] H := hP
  have hD : va_D A [(h0, .inr (1, [.int 0, .ref q12, .ref q20, .ref q28, .ref q36, .ref q44, .ref q52, .null])), (q12, .inl (k12, 60, .inl fun _ => 0)), (q20, .inl (k20, 60, .inl fun _ => 0)), (q28, .inl (k28, 60, .inl fun _ => 0)), (q36, .inl (k36, 60, .inl fun _ => 0)), (q44, .inl (k44, 60, .inl fun _ => 0)), (q52, .inl (k52, 60, .inl fun _ => 0)), (q60, .inl (k60, 60, .inl fun _ => 0))] := hD
  have hK : va_K D classes [(k12, .int), (k20, .int), (k28, .int), (k36, .int), (k44, .int), (k52, .int), (k60, .int)] s := hK
  refine va_putF (D := D) (ci := 1) (v := .ref q60) (ty := .array .int) (C := R_B) (T := F_B) (N := 8) hx hb htb iw_B t_B t_B_ok n_B hown hK hP hD hS 0 rfl rfl 7 (by decide) (htb _ mw_69) (fun _ h9 => h9) rfl hin rfl (by decide +kernel) rfl rfl (Nat.le_of_ble_eq_true rfl) d_B_init_62 (fun H locs hP hD hS => ?_)
  have hP : va_P D classes [(h0, .inr (1, [.int 0, .ref q12, .ref q20, .ref q28, .ref q36, .ref q44, .ref q52, .ref q60])), (q12, .inl (k12, 60, .inl fun _ => 0)), (q20, .inl (k20, 60, .inl fun _ => 0)), (q28, .inl (k28, 60, .inl fun _ => 0)), (q36, .inl (k36, 60, .inl fun _ => 0)), (q44, .inl (k44, 60, .inl fun _ => 0)), (q52, .inl (k52, 60, .inl fun _ => 0)), (q60, .inl (k60, 60, .inl fun _ => 0))] H := hP
  have hD : va_D A [(h0, .inr (1, [.int 0, .ref q12, .ref q20, .ref q28, .ref q36, .ref q44, .ref q52, .ref q60])), (q12, .inl (k12, 60, .inl fun _ => 0)), (q20, .inl (k20, 60, .inl fun _ => 0)), (q28, .inl (k28, 60, .inl fun _ => 0)), (q36, .inl (k36, 60, .inl fun _ => 0)), (q44, .inl (k44, 60, .inl fun _ => 0)), (q52, .inl (k52, 60, .inl fun _ => 0)), (q60, .inl (k60, 60, .inl fun _ => 0))] := hD
  exact hret ((fun j => [q12, q20, q28, q36, q44, q52, q60].getD (j - 2) 0), (fun j => [k12, k20, k28, k36, k44, k52, k60].getD (j - 2) k12)) _ _ _ _ _ _ hP hK hD hS (Nat.le_of_ble_eq_true rfl) (Nat.le_of_ble_eq_true rfl) d_B_init_65
def w0_N (h0 : Nat) (u : AK) : va_W := [(h0, .inr (2, [.int 0, .ref (u.1 10), .ref (u.1 11), .ref (u.1 12), .ref (u.1 13), .ref (u.1 14)])), (u.1 10, .inl (u.2 10, 200, .inl fun _ => 0)), (u.1 11, .inl (u.2 11, 200, .inl fun _ => 0)), (u.1 12, .inl (u.2 12, 60, .inl fun _ => 0)), (u.1 13, .inl (u.2 13, 60, .inl fun _ => 0)), (u.1 14, .inl (u.2 14, 60, .inl fun _ => 0))]
def t0_N (u : AK) : List (ClassId × FieldType) := [(u.2 10, .int), (u.2 11, .int), (u.2 12, .int), (u.2 13, .int), (u.2 14, .int)]
set_option maxHeartbeats 4000000 in
set_option maxRecDepth 100000 in
theorem c_N_init (l : Launch) (D : va_G) (h0 : Nat) : CT l y_N_init (.code y_N_init b_N_init 1 none :: TB) ({ frames := 1, cells := 5, slots := 580, locals := 12 } : Room) [.ref h0] D classes [(h0, .inr (2, [.int 0, .null, .null, .null, .null, .null]))] (w0_N h0) t0_N 5 580 := by
  refine ct_of (by decide +kernel) rfl (Nat.le_of_ble_eq_true rfl) ?_
  intro p e s m args below meth c Q ls A hx hb hml htb hown hin hP hK hD hS hA hl hret
  have hl : lv_has ls 1 [(0, .ref h0)] := hl
  refine lv_aload_n hx hb d_N_init_0 rfl (lv_at hl 0 rfl) ?_
  refine W.objInit hx hb hown (htb _ mw_94) (htb _ mw_47) (htb _ mw_48) rfl (by rw [hml]; exact hl.1) rfl d_N_init_1 (Nat.le_of_ble_eq_true rfl) (Nat.le_of_ble_eq_true rfl) ?_
  refine W.eq (g2 := F0 m 4 ls []) rfl ?_
  refine lv_aload_n hx hb d_N_init_4 rfl (lv_at hl 0 rfl) ?_
  refine lv_iconst (v := 0) hx hb d_N_init_5 (by decide) ?_
  refine va_put (D := D) (ci := 2) (v := .int 0) (ty := .int) (C := R_N) (T := F_N) (N := 6) hx hb htb iw_N t_N t_N_ok n_N hown hK hP hD hS 0 rfl rfl 0 (by decide) (htb _ mw_95) (fun _ h9 => h9) rfl (by decide +kernel) rfl rfl (Nat.le_of_ble_eq_true rfl) d_N_init_6 (fun H locs hP hD hS => ?_)
  have hP : va_P D classes [(h0, .inr (2, [.int 0, .null, .null, .null, .null, .null]))] H := hP
  have hD : va_D A [(h0, .inr (2, [.int 0, .null, .null, .null, .null, .null]))] := hD
  refine lv_aload_n hx hb d_N_init_9 rfl (lv_at hl 0 rfl) ?_
  refine lv_sipush (v := 200) hx hb d_N_init_10 (by decide) ?_
  refine va_newa (atype := .int) (ty := .int) (a0 := (200, .inl fun _ => 0)) (N' := 200) hx hb (htb _ mw_88) rfl hK hP hD hS hA (fun _ => rfl) (by decide) (by decide) (by decide) (Nat.le_of_ble_eq_true rfl) (Nat.le_of_ble_eq_true rfl) d_N_init_13 (fun q13 k13 H hK hP hD hS => ?_)
  have hP : va_P D classes [(h0, .inr (2, [.int 0, .null, .null, .null, .null, .null])), (q13, .inl (k13, 200, .inl fun _ => 0))] H := hP
  have hD : va_D A [(h0, .inr (2, [.int 0, .null, .null, .null, .null, .null])), (q13, .inl (k13, 200, .inl fun _ => 0))] := hD
  have hK : va_K D classes [(k13, .int)] s := hK
  refine va_putF (D := D) (ci := 2) (v := .ref q13) (ty := .array .int) (C := R_N) (T := F_N) (N := 6) hx hb htb iw_N t_N t_N_ok n_N hown hK hP hD hS 0 rfl rfl 1 (by decide) (htb _ mw_97) (fun _ h9 => h9) rfl hin rfl (by decide +kernel) rfl rfl (Nat.le_of_ble_eq_true rfl) d_N_init_15 (fun H locs hP hD hS => ?_)
  have hP : va_P D classes [(h0, .inr (2, [.int 0, .ref q13, .null, .null, .null, .null])), (q13, .inl (k13, 200, .inl fun _ => 0))] H := hP
  have hD : va_D A [(h0, .inr (2, [.int 0, .ref q13, .null, .null, .null, .null])), (q13, .inl (k13, 200, .inl fun _ => 0))] := hD
  refine lv_aload_n hx hb d_N_init_18 rfl (lv_at hl 0 rfl) ?_
  refine lv_sipush (v := 200) hx hb d_N_init_19 (by decide) ?_
  refine va_newa (atype := .int) (ty := .int) (a0 := (200, .inl fun _ => 0)) (N' := 200) hx hb (htb _ mw_88) rfl hK hP hD hS hA (fun _ => rfl) (by decide) (by decide) (by decide) (Nat.le_of_ble_eq_true rfl) (Nat.le_of_ble_eq_true rfl) d_N_init_22 (fun q22 k22 H hK hP hD hS => ?_)
  have hP : va_P D classes [(h0, .inr (2, [.int 0, .ref q13, .null, .null, .null, .null])), (q13, .inl (k13, 200, .inl fun _ => 0)), (q22, .inl (k22, 200, .inl fun _ => 0))] H := hP
  have hD : va_D A [(h0, .inr (2, [.int 0, .ref q13, .null, .null, .null, .null])), (q13, .inl (k13, 200, .inl fun _ => 0)), (q22, .inl (k22, 200, .inl fun _ => 0))] := hD
  have hK : va_K D classes [(k13, .int), (k22, .int)] s := hK
  refine va_putF (D := D) (ci := 2) (v := .ref q22) (ty := .array .int) (C := R_N) (T := F_N) (N := 6) hx hb htb iw_N t_N t_N_ok n_N hown hK hP hD hS 0 rfl rfl 2 (by decide) (htb _ mw_98) (fun _ h9 => h9) rfl hin rfl (by decide +kernel) rfl rfl (Nat.le_of_ble_eq_true rfl) d_N_init_24 (fun H locs hP hD hS => ?_)
  have hP : va_P D classes [(h0, .inr (2, [.int 0, .ref q13, .ref q22, .null, .null, .null])), (q13, .inl (k13, 200, .inl fun _ => 0)), (q22, .inl (k22, 200, .inl fun _ => 0))] H := hP
  have hD : va_D A [(h0, .inr (2, [.int 0, .ref q13, .ref q22, .null, .null, .null])), (q13, .inl (k13, 200, .inl fun _ => 0)), (q22, .inl (k22, 200, .inl fun _ => 0))] := hD
  refine lv_aload_n hx hb d_N_init_27 rfl (lv_at hl 0 rfl) ?_
  refine lv_bipush (v := 60) hx hb d_N_init_28 (by decide) ?_
  refine va_newa (atype := .int) (ty := .int) (a0 := (60, .inl fun _ => 0)) (N' := 60) hx hb (htb _ mw_88) rfl hK hP hD hS hA (fun _ => rfl) (by decide) (by decide) (by decide) (Nat.le_of_ble_eq_true rfl) (Nat.le_of_ble_eq_true rfl) d_N_init_30 (fun q30 k30 H hK hP hD hS => ?_)
  have hP : va_P D classes [(h0, .inr (2, [.int 0, .ref q13, .ref q22, .null, .null, .null])), (q13, .inl (k13, 200, .inl fun _ => 0)), (q22, .inl (k22, 200, .inl fun _ => 0)), (q30, .inl (k30, 60, .inl fun _ => 0))] H := hP
  have hD : va_D A [(h0, .inr (2, [.int 0, .ref q13, .ref q22, .null, .null, .null])), (q13, .inl (k13, 200, .inl fun _ => 0)), (q22, .inl (k22, 200, .inl fun _ => 0)), (q30, .inl (k30, 60, .inl fun _ => 0))] := hD
  have hK : va_K D classes [(k13, .int), (k22, .int), (k30, .int)] s := hK
  refine va_putF (D := D) (ci := 2) (v := .ref q30) (ty := .array .int) (C := R_N) (T := F_N) (N := 6) hx hb htb iw_N t_N t_N_ok n_N hown hK hP hD hS 0 rfl rfl 3 (by decide) (htb _ mw_99) (fun _ h9 => h9) rfl hin rfl (by decide +kernel) rfl rfl (Nat.le_of_ble_eq_true rfl) d_N_init_32 (fun H locs hP hD hS => ?_)
  have hP : va_P D classes [(h0, .inr (2, [.int 0, .ref q13, .ref q22, .ref q30, .null, .null])), (q13, .inl (k13, 200, .inl fun _ => 0)), (q22, .inl (k22, 200, .inl fun _ => 0)), (q30, .inl (k30, 60, .inl fun _ => 0))] H := hP
  have hD : va_D A [(h0, .inr (2, [.int 0, .ref q13, .ref q22, .ref q30, .null, .null])), (q13, .inl (k13, 200, .inl fun _ => 0)), (q22, .inl (k22, 200, .inl fun _ => 0)), (q30, .inl (k30, 60, .inl fun _ => 0))] := hD
  refine lv_aload_n hx hb d_N_init_35 rfl (lv_at hl 0 rfl) ?_
  refine lv_bipush (v := 60) hx hb d_N_init_36 (by decide) ?_
  refine va_newa (atype := .int) (ty := .int) (a0 := (60, .inl fun _ => 0)) (N' := 60) hx hb (htb _ mw_88) rfl hK hP hD hS hA (fun _ => rfl) (by decide) (by decide) (by decide) (Nat.le_of_ble_eq_true rfl) (Nat.le_of_ble_eq_true rfl) d_N_init_38 (fun q38 k38 H hK hP hD hS => ?_)
  have hP : va_P D classes [(h0, .inr (2, [.int 0, .ref q13, .ref q22, .ref q30, .null, .null])), (q13, .inl (k13, 200, .inl fun _ => 0)), (q22, .inl (k22, 200, .inl fun _ => 0)), (q30, .inl (k30, 60, .inl fun _ => 0)), (q38, .inl (k38, 60, .inl fun _ => 0))] H := hP
  have hD : va_D A [(h0, .inr (2, [.int 0, .ref q13, .ref q22, .ref q30, .null, .null])), (q13, .inl (k13, 200, .inl fun _ => 0)), (q22, .inl (k22, 200, .inl fun _ => 0)), (q30, .inl (k30, 60, .inl fun _ => 0)), (q38, .inl (k38, 60, .inl fun _ => 0))] := hD
  have hK : va_K D classes [(k13, .int), (k22, .int), (k30, .int), (k38, .int)] s := hK
  refine va_putF (D := D) (ci := 2) (v := .ref q38) (ty := .array .int) (C := R_N) (T := F_N) (N := 6) hx hb htb iw_N t_N t_N_ok n_N hown hK hP hD hS 0 rfl rfl 4 (by decide) (htb _ mw_101) (fun _ h9 => h9) rfl hin rfl (by decide +kernel) rfl rfl (Nat.le_of_ble_eq_true rfl) d_N_init_40 (fun H locs hP hD hS => ?_)
  have hP : va_P D classes [(h0, .inr (2, [.int 0, .ref q13, .ref q22, .ref q30, .ref q38, .null])), (q13, .inl (k13, 200, .inl fun _ => 0)), (q22, .inl (k22, 200, .inl fun _ => 0)), (q30, .inl (k30, 60, .inl fun _ => 0)), (q38, .inl (k38, 60, .inl fun _ => 0))] H := hP
  have hD : va_D A [(h0, .inr (2, [.int 0, .ref q13, .ref q22, .ref q30, .ref q38, .null])), (q13, .inl (k13, 200, .inl fun _ => 0)), (q22, .inl (k22, 200, .inl fun _ => 0)), (q30, .inl (k30, 60, .inl fun _ => 0)), (q38, .inl (k38, 60, .inl fun _ => 0))] := hD
  refine lv_aload_n hx hb d_N_init_43 rfl (lv_at hl 0 rfl) ?_
  refine lv_bipush (v := 60) hx hb d_N_init_44 (by decide) ?_
  refine va_newa (atype := .int) (ty := .int) (a0 := (60, .inl fun _ => 0)) (N' := 60) hx hb (htb _ mw_88) rfl hK hP hD hS hA (fun _ => rfl) (by decide) (by decide) (by decide) (Nat.le_of_ble_eq_true rfl) (Nat.le_of_ble_eq_true rfl) d_N_init_46 (fun q46 k46 H hK hP hD hS => ?_)
  have hP : va_P D classes [(h0, .inr (2, [.int 0, .ref q13, .ref q22, .ref q30, .ref q38, .null])), (q13, .inl (k13, 200, .inl fun _ => 0)), (q22, .inl (k22, 200, .inl fun _ => 0)), (q30, .inl (k30, 60, .inl fun _ => 0)), (q38, .inl (k38, 60, .inl fun _ => 0)), (q46, .inl (k46, 60, .inl fun _ => 0))] H := hP
  have hD : va_D A [(h0, .inr (2, [.int 0, .ref q13, .ref q22, .ref q30, .ref q38, .null])), (q13, .inl (k13, 200, .inl fun _ => 0)), (q22, .inl (k22, 200, .inl fun _ => 0)), (q30, .inl (k30, 60, .inl fun _ => 0)), (q38, .inl (k38, 60, .inl fun _ => 0)), (q46, .inl (k46, 60, .inl fun _ => 0))] := hD
  have hK : va_K D classes [(k13, .int), (k22, .int), (k30, .int), (k38, .int), (k46, .int)] s := hK
  refine va_putF (D := D) (ci := 2) (v := .ref q46) (ty := .array .int) (C := R_N) (T := F_N) (N := 6) hx hb htb iw_N t_N t_N_ok n_N hown hK hP hD hS 0 rfl rfl 5 (by decide) (htb _ mw_103) (fun _ h9 => h9) rfl hin rfl (by decide +kernel) rfl rfl (Nat.le_of_ble_eq_true rfl) d_N_init_48 (fun H locs hP hD hS => ?_)
  have hP : va_P D classes [(h0, .inr (2, [.int 0, .ref q13, .ref q22, .ref q30, .ref q38, .ref q46])), (q13, .inl (k13, 200, .inl fun _ => 0)), (q22, .inl (k22, 200, .inl fun _ => 0)), (q30, .inl (k30, 60, .inl fun _ => 0)), (q38, .inl (k38, 60, .inl fun _ => 0)), (q46, .inl (k46, 60, .inl fun _ => 0))] H := hP
  have hD : va_D A [(h0, .inr (2, [.int 0, .ref q13, .ref q22, .ref q30, .ref q38, .ref q46])), (q13, .inl (k13, 200, .inl fun _ => 0)), (q22, .inl (k22, 200, .inl fun _ => 0)), (q30, .inl (k30, 60, .inl fun _ => 0)), (q38, .inl (k38, 60, .inl fun _ => 0)), (q46, .inl (k46, 60, .inl fun _ => 0))] := hD
  exact hret ((fun j => [q13, q22, q30, q38, q46].getD (j - 10) 0), (fun j => [k13, k22, k30, k38, k46].getD (j - 10) k13)) _ _ _ _ _ _ hP hK hD hS (Nat.le_of_ble_eq_true rfl) (Nat.le_of_ble_eq_true rfl) d_N_init_51
def w0_X (h0 : Nat) (u : AK) : va_W := [(h0, .inr (3, [.int 0, .ref (u.1 16), .ref (u.1 17), .ref (u.1 18), .ref (u.1 19), .ref (u.1 20), .ref (u.1 21), .ref (u.1 22), .ref (u.1 23)])), (u.1 16, .inl (u.2 16, 60, .inl fun _ => 0)), (u.1 17, .inl (u.2 17, 60, .inl fun _ => 0)), (u.1 18, .inl (u.2 18, 60, .inl fun _ => 0)), (u.1 19, .inl (u.2 19, 60, .inl fun _ => 0)), (u.1 20, .inl (u.2 20, 60, .inr (.inl fun _ => 0))), (u.1 21, .inl (u.2 21, 60, .inl fun _ => 0)), (u.1 22, .inl (u.2 22, 60, .inl fun _ => 0)), (u.1 23, .inl (u.2 23, 60, .inl fun _ => 0))]
def t0_X (u : AK) : List (ClassId × FieldType) := [(u.2 16, .int), (u.2 17, .int), (u.2 18, .int), (u.2 19, .int), (u.2 20, .long), (u.2 21, .int), (u.2 22, .int), (u.2 23, .int)]
set_option maxHeartbeats 4000000 in
set_option maxRecDepth 100000 in
theorem c_X_init (l : Launch) (D : va_G) (h0 : Nat) : CT l y_X_init (.code y_X_init b_X_init 1 none :: TB) ({ frames := 1, cells := 8, slots := 480, locals := 12 } : Room) [.ref h0] D classes [(h0, .inr (3, [.int 0, .null, .null, .null, .null, .null, .null, .null, .null]))] (w0_X h0) t0_X 8 480 := by
  refine ct_of (by decide +kernel) rfl (Nat.le_of_ble_eq_true rfl) ?_
  intro p e s m args below meth c Q ls A hx hb hml htb hown hin hP hK hD hS hA hl hret
  have hl : lv_has ls 1 [(0, .ref h0)] := hl
  refine lv_aload_n hx hb d_X_init_0 rfl (lv_at hl 0 rfl) ?_
  refine W.objInit hx hb hown (htb _ mw_123) (htb _ mw_47) (htb _ mw_48) rfl (by rw [hml]; exact hl.1) rfl d_X_init_1 (Nat.le_of_ble_eq_true rfl) (Nat.le_of_ble_eq_true rfl) ?_
  refine W.eq (g2 := F0 m 4 ls []) rfl ?_
  refine lv_aload_n hx hb d_X_init_4 rfl (lv_at hl 0 rfl) ?_
  refine lv_iconst (v := 0) hx hb d_X_init_5 (by decide) ?_
  refine va_put (D := D) (ci := 3) (v := .int 0) (ty := .int) (C := R_X) (T := F_X) (N := 9) hx hb htb iw_X t_X t_X_ok n_X hown hK hP hD hS 0 rfl rfl 0 (by decide) (htb _ mw_124) (fun _ h9 => h9) rfl (by decide +kernel) rfl rfl (Nat.le_of_ble_eq_true rfl) d_X_init_6 (fun H locs hP hD hS => ?_)
  have hP : va_P D classes [(h0, .inr (3, [.int 0, .null, .null, .null, .null, .null, .null, .null, .null]))] H := hP
  have hD : va_D A [(h0, .inr (3, [.int 0, .null, .null, .null, .null, .null, .null, .null, .null]))] := hD
  refine lv_aload_n hx hb d_X_init_9 rfl (lv_at hl 0 rfl) ?_
  refine lv_bipush (v := 60) hx hb d_X_init_10 (by decide) ?_
  refine va_newa (atype := .int) (ty := .int) (a0 := (60, .inl fun _ => 0)) (N' := 60) hx hb (htb _ mw_88) rfl hK hP hD hS hA (fun _ => rfl) (by decide) (by decide) (by decide) (Nat.le_of_ble_eq_true rfl) (Nat.le_of_ble_eq_true rfl) d_X_init_12 (fun q12 k12 H hK hP hD hS => ?_)
  have hP : va_P D classes [(h0, .inr (3, [.int 0, .null, .null, .null, .null, .null, .null, .null, .null])), (q12, .inl (k12, 60, .inl fun _ => 0))] H := hP
  have hD : va_D A [(h0, .inr (3, [.int 0, .null, .null, .null, .null, .null, .null, .null, .null])), (q12, .inl (k12, 60, .inl fun _ => 0))] := hD
  have hK : va_K D classes [(k12, .int)] s := hK
  refine va_putF (D := D) (ci := 3) (v := .ref q12) (ty := .array .int) (C := R_X) (T := F_X) (N := 9) hx hb htb iw_X t_X t_X_ok n_X hown hK hP hD hS 0 rfl rfl 1 (by decide) (htb _ mw_126) (fun _ h9 => h9) rfl hin rfl (by decide +kernel) rfl rfl (Nat.le_of_ble_eq_true rfl) d_X_init_14 (fun H locs hP hD hS => ?_)
  have hP : va_P D classes [(h0, .inr (3, [.int 0, .ref q12, .null, .null, .null, .null, .null, .null, .null])), (q12, .inl (k12, 60, .inl fun _ => 0))] H := hP
  have hD : va_D A [(h0, .inr (3, [.int 0, .ref q12, .null, .null, .null, .null, .null, .null, .null])), (q12, .inl (k12, 60, .inl fun _ => 0))] := hD
  refine lv_aload_n hx hb d_X_init_17 rfl (lv_at hl 0 rfl) ?_
  refine lv_bipush (v := 60) hx hb d_X_init_18 (by decide) ?_
  refine va_newa (atype := .int) (ty := .int) (a0 := (60, .inl fun _ => 0)) (N' := 60) hx hb (htb _ mw_88) rfl hK hP hD hS hA (fun _ => rfl) (by decide) (by decide) (by decide) (Nat.le_of_ble_eq_true rfl) (Nat.le_of_ble_eq_true rfl) d_X_init_20 (fun q20 k20 H hK hP hD hS => ?_)
  have hP : va_P D classes [(h0, .inr (3, [.int 0, .ref q12, .null, .null, .null, .null, .null, .null, .null])), (q12, .inl (k12, 60, .inl fun _ => 0)), (q20, .inl (k20, 60, .inl fun _ => 0))] H := hP
  have hD : va_D A [(h0, .inr (3, [.int 0, .ref q12, .null, .null, .null, .null, .null, .null, .null])), (q12, .inl (k12, 60, .inl fun _ => 0)), (q20, .inl (k20, 60, .inl fun _ => 0))] := hD
  have hK : va_K D classes [(k12, .int), (k20, .int)] s := hK
  refine va_putF (D := D) (ci := 3) (v := .ref q20) (ty := .array .int) (C := R_X) (T := F_X) (N := 9) hx hb htb iw_X t_X t_X_ok n_X hown hK hP hD hS 0 rfl rfl 2 (by decide) (htb _ mw_128) (fun _ h9 => h9) rfl hin rfl (by decide +kernel) rfl rfl (Nat.le_of_ble_eq_true rfl) d_X_init_22 (fun H locs hP hD hS => ?_)
  have hP : va_P D classes [(h0, .inr (3, [.int 0, .ref q12, .ref q20, .null, .null, .null, .null, .null, .null])), (q12, .inl (k12, 60, .inl fun _ => 0)), (q20, .inl (k20, 60, .inl fun _ => 0))] H := hP
  have hD : va_D A [(h0, .inr (3, [.int 0, .ref q12, .ref q20, .null, .null, .null, .null, .null, .null])), (q12, .inl (k12, 60, .inl fun _ => 0)), (q20, .inl (k20, 60, .inl fun _ => 0))] := hD
  refine lv_aload_n hx hb d_X_init_25 rfl (lv_at hl 0 rfl) ?_
  refine lv_bipush (v := 60) hx hb d_X_init_26 (by decide) ?_
  refine va_newa (atype := .int) (ty := .int) (a0 := (60, .inl fun _ => 0)) (N' := 60) hx hb (htb _ mw_88) rfl hK hP hD hS hA (fun _ => rfl) (by decide) (by decide) (by decide) (Nat.le_of_ble_eq_true rfl) (Nat.le_of_ble_eq_true rfl) d_X_init_28 (fun q28 k28 H hK hP hD hS => ?_)
  have hP : va_P D classes [(h0, .inr (3, [.int 0, .ref q12, .ref q20, .null, .null, .null, .null, .null, .null])), (q12, .inl (k12, 60, .inl fun _ => 0)), (q20, .inl (k20, 60, .inl fun _ => 0)), (q28, .inl (k28, 60, .inl fun _ => 0))] H := hP
  have hD : va_D A [(h0, .inr (3, [.int 0, .ref q12, .ref q20, .null, .null, .null, .null, .null, .null])), (q12, .inl (k12, 60, .inl fun _ => 0)), (q20, .inl (k20, 60, .inl fun _ => 0)), (q28, .inl (k28, 60, .inl fun _ => 0))] := hD
  have hK : va_K D classes [(k12, .int), (k20, .int), (k28, .int)] s := hK
  refine va_putF (D := D) (ci := 3) (v := .ref q28) (ty := .array .int) (C := R_X) (T := F_X) (N := 9) hx hb htb iw_X t_X t_X_ok n_X hown hK hP hD hS 0 rfl rfl 3 (by decide) (htb _ mw_130) (fun _ h9 => h9) rfl hin rfl (by decide +kernel) rfl rfl (Nat.le_of_ble_eq_true rfl) d_X_init_30 (fun H locs hP hD hS => ?_)
  have hP : va_P D classes [(h0, .inr (3, [.int 0, .ref q12, .ref q20, .ref q28, .null, .null, .null, .null, .null])), (q12, .inl (k12, 60, .inl fun _ => 0)), (q20, .inl (k20, 60, .inl fun _ => 0)), (q28, .inl (k28, 60, .inl fun _ => 0))] H := hP
  have hD : va_D A [(h0, .inr (3, [.int 0, .ref q12, .ref q20, .ref q28, .null, .null, .null, .null, .null])), (q12, .inl (k12, 60, .inl fun _ => 0)), (q20, .inl (k20, 60, .inl fun _ => 0)), (q28, .inl (k28, 60, .inl fun _ => 0))] := hD
  refine lv_aload_n hx hb d_X_init_33 rfl (lv_at hl 0 rfl) ?_
  refine lv_bipush (v := 60) hx hb d_X_init_34 (by decide) ?_
  refine va_newa (atype := .int) (ty := .int) (a0 := (60, .inl fun _ => 0)) (N' := 60) hx hb (htb _ mw_88) rfl hK hP hD hS hA (fun _ => rfl) (by decide) (by decide) (by decide) (Nat.le_of_ble_eq_true rfl) (Nat.le_of_ble_eq_true rfl) d_X_init_36 (fun q36 k36 H hK hP hD hS => ?_)
  have hP : va_P D classes [(h0, .inr (3, [.int 0, .ref q12, .ref q20, .ref q28, .null, .null, .null, .null, .null])), (q12, .inl (k12, 60, .inl fun _ => 0)), (q20, .inl (k20, 60, .inl fun _ => 0)), (q28, .inl (k28, 60, .inl fun _ => 0)), (q36, .inl (k36, 60, .inl fun _ => 0))] H := hP
  have hD : va_D A [(h0, .inr (3, [.int 0, .ref q12, .ref q20, .ref q28, .null, .null, .null, .null, .null])), (q12, .inl (k12, 60, .inl fun _ => 0)), (q20, .inl (k20, 60, .inl fun _ => 0)), (q28, .inl (k28, 60, .inl fun _ => 0)), (q36, .inl (k36, 60, .inl fun _ => 0))] := hD
  have hK : va_K D classes [(k12, .int), (k20, .int), (k28, .int), (k36, .int)] s := hK
  refine va_putF (D := D) (ci := 3) (v := .ref q36) (ty := .array .int) (C := R_X) (T := F_X) (N := 9) hx hb htb iw_X t_X t_X_ok n_X hown hK hP hD hS 0 rfl rfl 4 (by decide) (htb _ mw_132) (fun _ h9 => h9) rfl hin rfl (by decide +kernel) rfl rfl (Nat.le_of_ble_eq_true rfl) d_X_init_38 (fun H locs hP hD hS => ?_)
  have hP : va_P D classes [(h0, .inr (3, [.int 0, .ref q12, .ref q20, .ref q28, .ref q36, .null, .null, .null, .null])), (q12, .inl (k12, 60, .inl fun _ => 0)), (q20, .inl (k20, 60, .inl fun _ => 0)), (q28, .inl (k28, 60, .inl fun _ => 0)), (q36, .inl (k36, 60, .inl fun _ => 0))] H := hP
  have hD : va_D A [(h0, .inr (3, [.int 0, .ref q12, .ref q20, .ref q28, .ref q36, .null, .null, .null, .null])), (q12, .inl (k12, 60, .inl fun _ => 0)), (q20, .inl (k20, 60, .inl fun _ => 0)), (q28, .inl (k28, 60, .inl fun _ => 0)), (q36, .inl (k36, 60, .inl fun _ => 0))] := hD
  refine lv_aload_n hx hb d_X_init_41 rfl (lv_at hl 0 rfl) ?_
  refine lv_bipush (v := 60) hx hb d_X_init_42 (by decide) ?_
  refine va_newa (atype := .long) (ty := .long) (a0 := (60, .inr (.inl fun _ => 0))) (N' := 60) hx hb (htb _ mw_160) rfl hK hP hD hS hA (fun _ => rfl) (by decide) (by decide) (by decide) (Nat.le_of_ble_eq_true rfl) (Nat.le_of_ble_eq_true rfl) d_X_init_44 (fun q44 k44 H hK hP hD hS => ?_)
  have hP : va_P D classes [(h0, .inr (3, [.int 0, .ref q12, .ref q20, .ref q28, .ref q36, .null, .null, .null, .null])), (q12, .inl (k12, 60, .inl fun _ => 0)), (q20, .inl (k20, 60, .inl fun _ => 0)), (q28, .inl (k28, 60, .inl fun _ => 0)), (q36, .inl (k36, 60, .inl fun _ => 0)), (q44, .inl (k44, 60, .inr (.inl fun _ => 0)))] H := hP
  have hD : va_D A [(h0, .inr (3, [.int 0, .ref q12, .ref q20, .ref q28, .ref q36, .null, .null, .null, .null])), (q12, .inl (k12, 60, .inl fun _ => 0)), (q20, .inl (k20, 60, .inl fun _ => 0)), (q28, .inl (k28, 60, .inl fun _ => 0)), (q36, .inl (k36, 60, .inl fun _ => 0)), (q44, .inl (k44, 60, .inr (.inl fun _ => 0)))] := hD
  have hK : va_K D classes [(k12, .int), (k20, .int), (k28, .int), (k36, .int), (k44, .long)] s := hK
  refine va_putF (D := D) (ci := 3) (v := .ref q44) (ty := .array .long) (C := R_X) (T := F_X) (N := 9) hx hb htb iw_X t_X t_X_ok n_X hown hK hP hD hS 0 rfl rfl 5 (by decide) (htb _ mw_134) (fun _ h9 => h9) rfl hin rfl (by decide +kernel) rfl rfl (Nat.le_of_ble_eq_true rfl) d_X_init_46 (fun H locs hP hD hS => ?_)
  have hP : va_P D classes [(h0, .inr (3, [.int 0, .ref q12, .ref q20, .ref q28, .ref q36, .ref q44, .null, .null, .null])), (q12, .inl (k12, 60, .inl fun _ => 0)), (q20, .inl (k20, 60, .inl fun _ => 0)), (q28, .inl (k28, 60, .inl fun _ => 0)), (q36, .inl (k36, 60, .inl fun _ => 0)), (q44, .inl (k44, 60, .inr (.inl fun _ => 0)))] H := hP
  have hD : va_D A [(h0, .inr (3, [.int 0, .ref q12, .ref q20, .ref q28, .ref q36, .ref q44, .null, .null, .null])), (q12, .inl (k12, 60, .inl fun _ => 0)), (q20, .inl (k20, 60, .inl fun _ => 0)), (q28, .inl (k28, 60, .inl fun _ => 0)), (q36, .inl (k36, 60, .inl fun _ => 0)), (q44, .inl (k44, 60, .inr (.inl fun _ => 0)))] := hD
  refine lv_aload_n hx hb d_X_init_49 rfl (lv_at hl 0 rfl) ?_
  refine lv_bipush (v := 60) hx hb d_X_init_50 (by decide) ?_
  refine va_newa (atype := .int) (ty := .int) (a0 := (60, .inl fun _ => 0)) (N' := 60) hx hb (htb _ mw_88) rfl hK hP hD hS hA (fun _ => rfl) (by decide) (by decide) (by decide) (Nat.le_of_ble_eq_true rfl) (Nat.le_of_ble_eq_true rfl) d_X_init_52 (fun q52 k52 H hK hP hD hS => ?_)
  have hP : va_P D classes [(h0, .inr (3, [.int 0, .ref q12, .ref q20, .ref q28, .ref q36, .ref q44, .null, .null, .null])), (q12, .inl (k12, 60, .inl fun _ => 0)), (q20, .inl (k20, 60, .inl fun _ => 0)), (q28, .inl (k28, 60, .inl fun _ => 0)), (q36, .inl (k36, 60, .inl fun _ => 0)), (q44, .inl (k44, 60, .inr (.inl fun _ => 0))), (q52, .inl (k52, 60, .inl fun _ => 0))] H := hP
  have hD : va_D A [(h0, .inr (3, [.int 0, .ref q12, .ref q20, .ref q28, .ref q36, .ref q44, .null, .null, .null])), (q12, .inl (k12, 60, .inl fun _ => 0)), (q20, .inl (k20, 60, .inl fun _ => 0)), (q28, .inl (k28, 60, .inl fun _ => 0)), (q36, .inl (k36, 60, .inl fun _ => 0)), (q44, .inl (k44, 60, .inr (.inl fun _ => 0))), (q52, .inl (k52, 60, .inl fun _ => 0))] := hD
  have hK : va_K D classes [(k12, .int), (k20, .int), (k28, .int), (k36, .int), (k44, .long), (k52, .int)] s := hK
  refine va_putF (D := D) (ci := 3) (v := .ref q52) (ty := .array .int) (C := R_X) (T := F_X) (N := 9) hx hb htb iw_X t_X t_X_ok n_X hown hK hP hD hS 0 rfl rfl 6 (by decide) (htb _ mw_135) (fun _ h9 => h9) rfl hin rfl (by decide +kernel) rfl rfl (Nat.le_of_ble_eq_true rfl) d_X_init_54 (fun H locs hP hD hS => ?_)
  have hP : va_P D classes [(h0, .inr (3, [.int 0, .ref q12, .ref q20, .ref q28, .ref q36, .ref q44, .ref q52, .null, .null])), (q12, .inl (k12, 60, .inl fun _ => 0)), (q20, .inl (k20, 60, .inl fun _ => 0)), (q28, .inl (k28, 60, .inl fun _ => 0)), (q36, .inl (k36, 60, .inl fun _ => 0)), (q44, .inl (k44, 60, .inr (.inl fun _ => 0))), (q52, .inl (k52, 60, .inl fun _ => 0))] H := hP
  have hD : va_D A [(h0, .inr (3, [.int 0, .ref q12, .ref q20, .ref q28, .ref q36, .ref q44, .ref q52, .null, .null])), (q12, .inl (k12, 60, .inl fun _ => 0)), (q20, .inl (k20, 60, .inl fun _ => 0)), (q28, .inl (k28, 60, .inl fun _ => 0)), (q36, .inl (k36, 60, .inl fun _ => 0)), (q44, .inl (k44, 60, .inr (.inl fun _ => 0))), (q52, .inl (k52, 60, .inl fun _ => 0))] := hD
  refine lv_aload_n hx hb d_X_init_57 rfl (lv_at hl 0 rfl) ?_
  refine lv_bipush (v := 60) hx hb d_X_init_58 (by decide) ?_
  refine va_newa (atype := .int) (ty := .int) (a0 := (60, .inl fun _ => 0)) (N' := 60) hx hb (htb _ mw_88) rfl hK hP hD hS hA (fun _ => rfl) (by decide) (by decide) (by decide) (Nat.le_of_ble_eq_true rfl) (Nat.le_of_ble_eq_true rfl) d_X_init_60 (fun q60 k60 H hK hP hD hS => ?_)
  have hP : va_P D classes [(h0, .inr (3, [.int 0, .ref q12, .ref q20, .ref q28, .ref q36, .ref q44, .ref q52, .null, .null])), (q12, .inl (k12, 60, .inl fun _ => 0)), (q20, .inl (k20, 60, .inl fun _ => 0)), (q28, .inl (k28, 60, .inl fun _ => 0)), (q36, .inl (k36, 60, .inl fun _ => 0)), (q44, .inl (k44, 60, .inr (.inl fun _ => 0))), (q52, .inl (k52, 60, .inl fun _ => 0)), (q60, .inl (k60, 60, .inl fun _ => 0))] H := hP
  have hD : va_D A [(h0, .inr (3, [.int 0, .ref q12, .ref q20, .ref q28, .ref q36, .ref q44, .ref q52, .null, .null])), (q12, .inl (k12, 60, .inl fun _ => 0)), (q20, .inl (k20, 60, .inl fun _ => 0)), (q28, .inl (k28, 60, .inl fun _ => 0)), (q36, .inl (k36, 60, .inl fun _ => 0)), (q44, .inl (k44, 60, .inr (.inl fun _ => 0))), (q52, .inl (k52, 60, .inl fun _ => 0)), (q60, .inl (k60, 60, .inl fun _ => 0))] := hD
  have hK : va_K D classes [(k12, .int), (k20, .int), (k28, .int), (k36, .int), (k44, .long), (k52, .int), (k60, .int)] s := hK
  refine va_putF (D := D) (ci := 3) (v := .ref q60) (ty := .array .int) (C := R_X) (T := F_X) (N := 9) hx hb htb iw_X t_X t_X_ok n_X hown hK hP hD hS 0 rfl rfl 7 (by decide) (htb _ mw_137) (fun _ h9 => h9) rfl hin rfl (by decide +kernel) rfl rfl (Nat.le_of_ble_eq_true rfl) d_X_init_62 (fun H locs hP hD hS => ?_)
  have hP : va_P D classes [(h0, .inr (3, [.int 0, .ref q12, .ref q20, .ref q28, .ref q36, .ref q44, .ref q52, .ref q60, .null])), (q12, .inl (k12, 60, .inl fun _ => 0)), (q20, .inl (k20, 60, .inl fun _ => 0)), (q28, .inl (k28, 60, .inl fun _ => 0)), (q36, .inl (k36, 60, .inl fun _ => 0)), (q44, .inl (k44, 60, .inr (.inl fun _ => 0))), (q52, .inl (k52, 60, .inl fun _ => 0)), (q60, .inl (k60, 60, .inl fun _ => 0))] H := hP
  have hD : va_D A [(h0, .inr (3, [.int 0, .ref q12, .ref q20, .ref q28, .ref q36, .ref q44, .ref q52, .ref q60, .null])), (q12, .inl (k12, 60, .inl fun _ => 0)), (q20, .inl (k20, 60, .inl fun _ => 0)), (q28, .inl (k28, 60, .inl fun _ => 0)), (q36, .inl (k36, 60, .inl fun _ => 0)), (q44, .inl (k44, 60, .inr (.inl fun _ => 0))), (q52, .inl (k52, 60, .inl fun _ => 0)), (q60, .inl (k60, 60, .inl fun _ => 0))] := hD
  refine lv_aload_n hx hb d_X_init_65 rfl (lv_at hl 0 rfl) ?_
  refine lv_bipush (v := 60) hx hb d_X_init_66 (by decide) ?_
  refine va_newa (atype := .int) (ty := .int) (a0 := (60, .inl fun _ => 0)) (N' := 60) hx hb (htb _ mw_88) rfl hK hP hD hS hA (fun _ => rfl) (by decide) (by decide) (by decide) (Nat.le_of_ble_eq_true rfl) (Nat.le_of_ble_eq_true rfl) d_X_init_68 (fun q68 k68 H hK hP hD hS => ?_)
  have hP : va_P D classes [(h0, .inr (3, [.int 0, .ref q12, .ref q20, .ref q28, .ref q36, .ref q44, .ref q52, .ref q60, .null])), (q12, .inl (k12, 60, .inl fun _ => 0)), (q20, .inl (k20, 60, .inl fun _ => 0)), (q28, .inl (k28, 60, .inl fun _ => 0)), (q36, .inl (k36, 60, .inl fun _ => 0)), (q44, .inl (k44, 60, .inr (.inl fun _ => 0))), (q52, .inl (k52, 60, .inl fun _ => 0)), (q60, .inl (k60, 60, .inl fun _ => 0)), (q68, .inl (k68, 60, .inl fun _ => 0))] H := hP
  have hD : va_D A [(h0, .inr (3, [.int 0, .ref q12, .ref q20, .ref q28, .ref q36, .ref q44, .ref q52, .ref q60, .null])), (q12, .inl (k12, 60, .inl fun _ => 0)), (q20, .inl (k20, 60, .inl fun _ => 0)), (q28, .inl (k28, 60, .inl fun _ => 0)), (q36, .inl (k36, 60, .inl fun _ => 0)), (q44, .inl (k44, 60, .inr (.inl fun _ => 0))), (q52, .inl (k52, 60, .inl fun _ => 0)), (q60, .inl (k60, 60, .inl fun _ => 0)), (q68, .inl (k68, 60, .inl fun _ => 0))] := hD
  have hK : va_K D classes [(k12, .int), (k20, .int), (k28, .int), (k36, .int), (k44, .long), (k52, .int), (k60, .int), (k68, .int)] s := hK
  refine va_putF (D := D) (ci := 3) (v := .ref q68) (ty := .array .int) (C := R_X) (T := F_X) (N := 9) hx hb htb iw_X t_X t_X_ok n_X hown hK hP hD hS 0 rfl rfl 8 (by decide) (htb _ mw_139) (fun _ h9 => h9) rfl hin rfl (by decide +kernel) rfl rfl (Nat.le_of_ble_eq_true rfl) d_X_init_70 (fun H locs hP hD hS => ?_)
  have hP : va_P D classes [(h0, .inr (3, [.int 0, .ref q12, .ref q20, .ref q28, .ref q36, .ref q44, .ref q52, .ref q60, .ref q68])), (q12, .inl (k12, 60, .inl fun _ => 0)), (q20, .inl (k20, 60, .inl fun _ => 0)), (q28, .inl (k28, 60, .inl fun _ => 0)), (q36, .inl (k36, 60, .inl fun _ => 0)), (q44, .inl (k44, 60, .inr (.inl fun _ => 0))), (q52, .inl (k52, 60, .inl fun _ => 0)), (q60, .inl (k60, 60, .inl fun _ => 0)), (q68, .inl (k68, 60, .inl fun _ => 0))] H := hP
  have hD : va_D A [(h0, .inr (3, [.int 0, .ref q12, .ref q20, .ref q28, .ref q36, .ref q44, .ref q52, .ref q60, .ref q68])), (q12, .inl (k12, 60, .inl fun _ => 0)), (q20, .inl (k20, 60, .inl fun _ => 0)), (q28, .inl (k28, 60, .inl fun _ => 0)), (q36, .inl (k36, 60, .inl fun _ => 0)), (q44, .inl (k44, 60, .inr (.inl fun _ => 0))), (q52, .inl (k52, 60, .inl fun _ => 0)), (q60, .inl (k60, 60, .inl fun _ => 0)), (q68, .inl (k68, 60, .inl fun _ => 0))] := hD
  exact hret ((fun j => [q12, q20, q28, q36, q44, q52, q60, q68].getD (j - 16) 0), (fun j => [k12, k20, k28, k36, k44, k52, k60, k68].getD (j - 16) k12)) _ _ _ _ _ _ hP hK hD hS (Nat.le_of_ble_eq_true rfl) (Nat.le_of_ble_eq_true rfl) d_X_init_73
end
section
set_option maxHeartbeats 4000000 in
set_option maxRecDepth 100000 in
theorem c_M_on (l : Launch) (D : va_G) (ad : Nat → Nat) (kd : Nat → ClassId) (g : Nat → Nat → Int32) (z : Nat → Int64) (v : Nat → Int32) (nb : Nat) (hnb : v 2 = nI nb) (hb6 : nb ≤ 60) (nx : Nat) (hnx : v 4 = nI nx) (hx6 : nx ≤ 60) (x y : Int32) : WRi l y_M_on (.code y_M_on b_M_on 3 (some .boolean) :: TB) ({ frames := 2, cells := 0, slots := 0, locals := 42 } : Room) [.ref (ad 0), .int x, .int y] D classes (wA ad kd g z v) (wA ad kd g (onZ g z nb nx x y) v) (tA kd) (bI (onR g z nb nx x y)) := by
  refine wr_of (by decide +kernel) (bI_nar _) (Nat.le_of_ble_eq_true rfl) ?_
  intro p e s m args below meth c Q ls A hx hb hml htb hown hP hK hD hS hA hl hret
  have hl : lv_has ls 3 [(0, .ref (ad 0)), (1, .int x), (2, .int y)] := hl
  refine lv_aload_n hx hb d_M_on_0 rfl (lv_at hl 0 rfl) ?_
  refine va_get (D := D) (ci := 0) (v := .ref (ad 15)) (C := R_M) (T := F_M) (N := 5) hx hb htb iw_M hown hK hP 0 rfl rfl 2 (by decide) (htb _ mw_163) (fun _ h9 => h9) rfl d_M_on_1 ?_
  refine lv_iload_n hx hb d_M_on_4 rfl (lv_at hl 1 rfl) ?_
  refine rdV (As := [.int x]) (rest := []) (b := ad 15) ⟨hx, hb, hml, hown, htb⟩ (c_X_has l D ad kd g z v nx hnx hx6 x) (cwV (C := R_X) 1 htb (gV tb_good mw_181 mw_182 mw_183 mw_30 mw_184) rfl rfl rfl (by decide +kernel) ⟨Nat.le_of_ble_eq_true rfl, Nat.le_of_ble_eq_true rfl⟩) hP hK (va_recv hK hP (ci := 3) (q0 := 15) rfl rfl) rfl hl.1 rfl (lv_room (Nat.le_of_ble_eq_true rfl)) d_M_on_5 ⟨Nat.zero_le _, Nat.zero_le _⟩ ?_
  refine lv_if_eq (tgt := 43) hx hb d_M_on_8 (by decide) (fun c1 => ?_) (fun c1 => ?_)
  · replace c1 := bI_f c1
    refine lv_iconst (v := 0) hx hb d_M_on_43 (by decide) ?_
    exact hret _ _ _ _ _ (by simp [onR, bI, c1]) (by rw [show onZ g z nb nx x y = z by simp [onZ, onR, c1]]; exact hP) hS d_M_on_44
  · replace c1 := bI_t c1
    obtain ⟨k, hk, rfl⟩ := inN_ix c1 (by omega)
    have ek : ix (nI k) = k := ix_nI (by omega)
    have mk : ¬ nI k = -1 := nI_nm1 (by omega)
    refine lv_aload_n hx hb d_M_on_11 rfl (lv_at hl 0 rfl) ?_
    refine va_get (D := D) (ci := 0) (v := .ref (ad 1)) (C := R_M) (T := F_M) (N := 5) hx hb htb iw_M hown hK hP 0 rfl rfl 0 (by decide) (htb _ mw_161) (fun _ h9 => h9) rfl d_M_on_12 ?_
    refine lv_iload_n hx hb d_M_on_15 rfl (lv_at hl 2 rfl) ?_
    refine rdV (As := [.int y]) (rest := []) (b := ad 1) ⟨hx, hb, hml, hown, htb⟩ (c_B_has l D ad kd g z v nb hnb hb6 y) (cwV (C := R_B) 1 htb (gV tb_good mw_185 mw_186 mw_187 mw_28 mw_188) rfl rfl rfl (by decide +kernel) ⟨Nat.le_of_ble_eq_true rfl, Nat.le_of_ble_eq_true rfl⟩) hP hK (va_recv hK hP (ci := 1) (q0 := 1) rfl rfl) rfl hl.1 rfl (lv_room (Nat.le_of_ble_eq_true rfl)) d_M_on_16 ⟨Nat.zero_le _, Nat.zero_le _⟩ ?_
    refine lv_if_eq (tgt := 43) hx hb d_M_on_19 (by decide) (fun c2 => ?_) (fun c2 => ?_)
    · replace c2 := bI_f c2
      refine lv_iconst (v := 0) hx hb d_M_on_43 (by decide) ?_
      exact hret _ _ _ _ _ (by simp [onR, bI, c1, ek, mk, c2]) (by rw [show onZ g z nb nx (nI k) y = z by simp [onZ, onR, c1, ek, mk, c2]]; exact hP) hS d_M_on_44
    · replace c2 := bI_t c2
      obtain ⟨j, hj, rfl⟩ := inN_ix c2 (by omega)
      have ej : ix (nI j) = j := ix_nI (by omega)
      have mj : ¬ nI j = -1 := nI_nm1 (by omega)
      refine lv_aload_n hx hb d_M_on_22 rfl (lv_at hl 0 rfl) ?_
      refine va_get (D := D) (ci := 0) (v := .ref (ad 15)) (C := R_M) (T := F_M) (N := 5) hx hb htb iw_M hown hK hP 0 rfl rfl 2 (by decide) (htb _ mw_163) (fun _ h9 => h9) rfl d_M_on_23 ?_
      refine va_get (D := D) (ci := 3) (v := .ref (ad 16)) (C := R_X) (T := F_X) (N := 9) hx hb htb iw_X hown hK hP 15 rfl rfl 1 (by decide) (htb _ mw_127) (fun _ h9 => h9) rfl d_M_on_26 ?_
      refine lv_iload_n hx hb d_M_on_29 rfl (lv_at hl 1 rfl) ?_
      refine q_iald hx hb hK hP 16 12 rfl rfl k (by omega) (by decide) d_M_on_30 ?_
      refine lv_aload_n hx hb d_M_on_31 rfl (lv_at hl 0 rfl) ?_
      refine va_get (D := D) (ci := 0) (v := .ref (ad 1)) (C := R_M) (T := F_M) (N := 5) hx hb htb iw_M hown hK hP 0 rfl rfl 0 (by decide) (htb _ mw_161) (fun _ h9 => h9) rfl d_M_on_32 ?_
      refine va_get (D := D) (ci := 1) (v := .ref (ad 2)) (C := R_B) (T := F_B) (N := 8) hx hb htb iw_B hown hK hP 1 rfl rfl 1 (by decide) (htb _ mw_58) (fun _ h9 => h9) rfl d_M_on_35 ?_
      refine lv_iload_n hx hb d_M_on_38 rfl (lv_at hl 2 rfl) ?_
      refine q_iald hx hb hK hP 2 0 rfl rfl j (by omega) (by decide) d_M_on_39 ?_
      refine lv_icmp_eq (tgt := 45) hx hb d_M_on_40 (by decide) (fun c3 => ?_) (fun c3 => ?_)
      · refine lv_aload_n hx hb d_M_on_45 rfl (lv_at hl 0 rfl) ?_
        refine va_get (D := D) (ci := 0) (v := .ref (ad 15)) (C := R_M) (T := F_M) (N := 5) hx hb htb iw_M hown hK hP 0 rfl rfl 2 (by decide) (htb _ mw_163) (fun _ h9 => h9) rfl d_M_on_46 ?_
        refine lv_iload_n hx hb d_M_on_49 rfl (lv_at hl 1 rfl) ?_
        refine lv_iload_n hx hb d_M_on_50 rfl (lv_at hl 2 rfl) ?_
        refine rdV (As := [.int (nI k), .int (nI j)]) (rest := []) (b := ad 15) ⟨hx, hb, hml, hown, htb⟩ (c_X_isOn l D ad kd g z v k (by omega) (nI j)) (cwV (C := R_X) 2 htb (gV tb_good mw_189 mw_190 mw_191 mw_30 mw_192) rfl rfl rfl (by decide +kernel) ⟨Nat.le_of_ble_eq_true rfl, Nat.le_of_ble_eq_true rfl⟩) hP hK (va_recv hK hP (ci := 3) (q0 := 15) rfl rfl) rfl hl.1 rfl (lv_room (Nat.le_of_ble_eq_true rfl)) d_M_on_51 ⟨Nat.zero_le _, Nat.zero_le _⟩ ?_
        refine lv_if_ne (tgt := 80) hx hb d_M_on_54 (by decide) (fun c4 => ?_) (fun c4 => ?_)
        · replace c4 := bI_t c4
          refine lv_iconst (v := 0) hx hb d_M_on_80 (by decide) ?_
          exact hret _ _ _ _ _ (by simp [onR, bI, c1, ek, mk, c2, ej, mj, c3, c4]) (by rw [show onZ g z nb nx (nI k) (nI j) = z by simp [onZ, onR, c1, ek, mk, c2, ej, mj, c3, c4]]; exact hP) hS d_M_on_81
        · replace c4 := bI_f c4
          refine lv_aload_n hx hb d_M_on_57 rfl (lv_at hl 0 rfl) ?_
          refine va_get (D := D) (ci := 0) (v := .ref (ad 15)) (C := R_M) (T := F_M) (N := 5) hx hb htb iw_M hown hK hP 0 rfl rfl 2 (by decide) (htb _ mw_163) (fun _ h9 => h9) rfl d_M_on_58 ?_
          refine lv_iload_n hx hb d_M_on_61 rfl (lv_at hl 1 rfl) ?_
          refine rdV (As := [.int (nI k)]) (rest := []) (b := ad 15) ⟨hx, hb, hml, hown, htb⟩ (c_X_billsOf l D ad kd g z v k (by omega)) (cwV (C := R_X) 1 htb (gV tb_good mw_193 mw_194 mw_195 mw_30 mw_196) rfl rfl rfl (by decide +kernel) ⟨Nat.le_of_ble_eq_true rfl, Nat.le_of_ble_eq_true rfl⟩) hP hK (va_recv hK hP (ci := 3) (q0 := 15) rfl rfl) rfl hl.1 rfl (lv_room (Nat.le_of_ble_eq_true rfl)) d_M_on_62 ⟨Nat.zero_le _, Nat.zero_le _⟩ ?_
          refine lv_iconst (v := 4) hx hb d_M_on_65 (by decide) ?_
          have hpc := popc_le (z k)
          refine q_icmp_ge (a := popc (z k)) (b := 4) (tgt := 80) hx hb (by omega) (by decide) d_M_on_66 (by decide) (fun c5 => ?_) (fun c5 => ?_)
          · refine lv_iconst (v := 0) hx hb d_M_on_80 (by decide) ?_
            exact hret _ _ _ _ _ (by simp [onR, bI, c1, ek, mk, c2, ej, mj, c3, c4, c5]) (by rw [show onZ g z nb nx (nI k) (nI j) = z by simp [onZ, onR, c1, ek, mk, c2, ej, mj, c3, c4, c5]]; exact hP) hS d_M_on_81
          · refine lv_aload_n hx hb d_M_on_69 rfl (lv_at hl 0 rfl) ?_
            refine va_get (D := D) (ci := 0) (v := .ref (ad 15)) (C := R_M) (T := F_M) (N := 5) hx hb htb iw_M hown hK hP 0 rfl rfl 2 (by decide) (htb _ mw_163) (fun _ h9 => h9) rfl d_M_on_70 ?_
            refine lv_iload_n hx hb d_M_on_73 rfl (lv_at hl 1 rfl) ?_
            refine rdV (As := [.int (nI k)]) (rest := []) (b := ad 15) ⟨hx, hb, hml, hown, htb⟩ (c_X_isOrdered l D ad kd g z v k (by omega)) (cwV (C := R_X) 1 htb (gV tb_good mw_203 mw_204 mw_205 mw_30 mw_206) rfl rfl rfl (by decide +kernel) ⟨Nat.le_of_ble_eq_true rfl, Nat.le_of_ble_eq_true rfl⟩) hP hK (va_recv hK hP (ci := 3) (q0 := 15) rfl rfl) rfl hl.1 rfl (lv_room (Nat.le_of_ble_eq_true rfl)) d_M_on_74 ⟨Nat.zero_le _, Nat.zero_le _⟩ ?_
            refine lv_if_eq (tgt := 82) hx hb d_M_on_77 (by decide) (fun c6 => ?_) (fun c6 => ?_)
            · replace c6 := bI_f c6
              refine lv_aload_n hx hb d_M_on_82 rfl (lv_at hl 0 rfl) ?_
              refine va_get (D := D) (ci := 0) (v := .ref (ad 15)) (C := R_M) (T := F_M) (N := 5) hx hb htb iw_M hown hK hP 0 rfl rfl 2 (by decide) (htb _ mw_163) (fun _ h9 => h9) rfl d_M_on_83 ?_
              refine lv_iload_n hx hb d_M_on_86 rfl (lv_at hl 1 rfl) ?_
              refine lv_iload_n hx hb d_M_on_87 rfl (lv_at hl 2 rfl) ?_
              refine wvV (As := [.int (nI k), .int (nI j)]) (rest := []) (b := ad 15) ⟨hx, hb, hml, hown, htb⟩ (c_X_putOn l D ad kd g z v k (by omega) (nI j)) (cwV (C := R_X) 2 htb (gV tb_good mw_207 mw_208 mw_209 mw_30 mw_210) rfl rfl rfl (by decide +kernel) ⟨Nat.le_of_ble_eq_true rfl, Nat.le_of_ble_eq_true rfl⟩) hP hK hD hS hA (va_recv hK hP (ci := 3) (q0 := 15) rfl rfl) rfl hl.1 rfl (lv_room (Nat.le_of_ble_eq_true rfl)) d_M_on_88 ⟨Nat.zero_le _, Nat.zero_le _⟩ (fun H locs hP hS => ?_)
              have hP : va_P D classes (wA ad kd g (vp_updL z k (z k ||| bitM (nI j))) v) H := hP
              have hD : va_D A (wA ad kd g (vp_updL z k (z k ||| bitM (nI j))) v) := wA_D hD
              refine lv_iconst (v := 1) hx hb d_M_on_91 (by decide) ?_
              exact hret _ _ _ _ _ (by simp [onR, bI, c1, ek, mk, c2, ej, mj, c3, c4, c5, c6]) (by rw [show onZ g z nb nx (nI k) (nI j) = (vp_updL z k (z k ||| bitM (nI j))) by simp [onZ, onR, c1, ek, mk, c2, ej, mj, c3, c4, c5, c6]]; exact hP) hS d_M_on_92
            · replace c6 := bI_t c6
              refine lv_iconst (v := 0) hx hb d_M_on_80 (by decide) ?_
              exact hret _ _ _ _ _ (by simp [onR, bI, c1, ek, mk, c2, ej, mj, c3, c4, c5, c6]) (by rw [show onZ g z nb nx (nI k) (nI j) = z by simp [onZ, onR, c1, ek, mk, c2, ej, mj, c3, c4, c5, c6]]; exact hP) hS d_M_on_81
      · refine lv_iconst (v := 0) hx hb d_M_on_43 (by decide) ?_
        exact hret _ _ _ _ _ (by simp [onR, bI, c1, ek, mk, c2, ej, mj, c3]) (by rw [show onZ g z nb nx (nI k) (nI j) = z by simp [onZ, onR, c1, ek, mk, c2, ej, mj, c3]]; exact hP) hS d_M_on_44
set_option maxHeartbeats 4000000 in
set_option maxRecDepth 100000 in
theorem c_M_land (l : Launch) (D : va_G) (ad : Nat → Nat) (kd : Nat → ClassId) (g : Nat → Nat → Int32) (z : Nat → Int64) (v : Nat → Int32) (nx : Nat) (hnx : v 4 = nI nx) (hx6 : nx ≤ 60) (x y : Int32) : WRi l y_M_land (.code y_M_land b_M_land 3 (some .boolean) :: TB) ({ frames := 1, cells := 0, slots := 0, locals := 21 } : Room) [.ref (ad 0), .int x, .int y] D classes (wA ad kd g z v) (wA ad kd (lanG g nx x y) z v) (tA kd) (bI (lanR g nx x y)) := by
  refine wr_of (by decide +kernel) (bI_nar _) (Nat.le_of_ble_eq_true rfl) ?_
  intro p e s m args below meth c Q ls A hx hb hml htb hown hP hK hD hS hA hl hret
  have hl : lv_has ls 3 [(0, .ref (ad 0)), (1, .int x), (2, .int y)] := hl
  refine lv_aload_n hx hb d_M_land_0 rfl (lv_at hl 0 rfl) ?_
  refine va_get (D := D) (ci := 0) (v := .ref (ad 15)) (C := R_M) (T := F_M) (N := 5) hx hb htb iw_M hown hK hP 0 rfl rfl 2 (by decide) (htb _ mw_163) (fun _ h9 => h9) rfl d_M_land_1 ?_
  refine lv_iload_n hx hb d_M_land_4 rfl (lv_at hl 1 rfl) ?_
  refine rdV (As := [.int x]) (rest := []) (b := ad 15) ⟨hx, hb, hml, hown, htb⟩ (c_X_has l D ad kd g z v nx hnx hx6 x) (cwV (C := R_X) 1 htb (gV tb_good mw_181 mw_182 mw_183 mw_30 mw_184) rfl rfl rfl (by decide +kernel) ⟨Nat.le_of_ble_eq_true rfl, Nat.le_of_ble_eq_true rfl⟩) hP hK (va_recv hK hP (ci := 3) (q0 := 15) rfl rfl) rfl hl.1 rfl (lv_room (Nat.le_of_ble_eq_true rfl)) d_M_land_5 ⟨Nat.zero_le _, Nat.zero_le _⟩ ?_
  refine lv_if_eq (tgt := 29) hx hb d_M_land_8 (by decide) (fun c1 => ?_) (fun c1 => ?_)
  · replace c1 := bI_f c1
    refine lv_iconst (v := 0) hx hb d_M_land_29 (by decide) ?_
    exact hret _ _ _ _ _ (by simp [lanR, bI, c1]) (by rw [show lanG g nx x y = g by simp [lanG, lanR, c1]]; exact hP) hS d_M_land_30
  · replace c1 := bI_t c1
    obtain ⟨k, hk, rfl⟩ := inN_ix c1 (by omega)
    have ek : ix (nI k) = k := ix_nI (by omega)
    have mk : ¬ nI k = -1 := nI_nm1 (by omega)
    refine lv_aload_n hx hb d_M_land_11 rfl (lv_at hl 0 rfl) ?_
    refine va_get (D := D) (ci := 0) (v := .ref (ad 15)) (C := R_M) (T := F_M) (N := 5) hx hb htb iw_M hown hK hP 0 rfl rfl 2 (by decide) (htb _ mw_163) (fun _ h9 => h9) rfl d_M_land_12 ?_
    refine lv_iload_n hx hb d_M_land_15 rfl (lv_at hl 1 rfl) ?_
    refine rdV (As := [.int (nI k)]) (rest := []) (b := ad 15) ⟨hx, hb, hml, hown, htb⟩ (c_X_hasLanded l D ad kd g z v k (by omega)) (cwV (C := R_X) 1 htb (gV tb_good mw_215 mw_216 mw_217 mw_30 mw_218) rfl rfl rfl (by decide +kernel) ⟨Nat.le_of_ble_eq_true rfl, Nat.le_of_ble_eq_true rfl⟩) hP hK (va_recv hK hP (ci := 3) (q0 := 15) rfl rfl) rfl hl.1 rfl (lv_room (Nat.le_of_ble_eq_true rfl)) d_M_land_16 ⟨Nat.zero_le _, Nat.zero_le _⟩ ?_
    refine lv_if_ne (tgt := 29) hx hb d_M_land_19 (by decide) (fun c2 => ?_) (fun c2 => ?_)
    · replace c2 := bI_t c2
      refine lv_iconst (v := 0) hx hb d_M_land_29 (by decide) ?_
      exact hret _ _ _ _ _ (by simp [lanR, bI, c1, ek, mk, c2]) (by rw [show lanG g nx (nI k) y = g by simp [lanG, lanR, c1, ek, mk, c2]]; exact hP) hS d_M_land_30
    · replace c2 := bI_f c2
      refine lv_iload_n hx hb d_M_land_22 rfl (lv_at hl 2 rfl) ?_
      refine rdS (As := [.int y]) (rest := []) ⟨hx, hb, hml, hown, htb⟩ (c_M_isWeight l D (wA ad kd g z v) (tA kd) y) (va_cwS 1 htb (gS tb_good mw_219 mw_220 mw_27 mw_221) rfl rfl rfl (by decide +kernel) ⟨Nat.le_of_ble_eq_true rfl, Nat.le_of_ble_eq_true rfl⟩) hP hK rfl hl.1 rfl (lv_room (Nat.le_of_ble_eq_true rfl)) d_M_land_23 ⟨Nat.zero_le _, Nat.zero_le _⟩ ?_
      refine lv_if_ne (tgt := 31) hx hb d_M_land_26 (by decide) (fun c3 => ?_) (fun c3 => ?_)
      · replace c3 := bI_t c3
        refine lv_aload_n hx hb d_M_land_31 rfl (lv_at hl 0 rfl) ?_
        refine va_get (D := D) (ci := 0) (v := .ref (ad 15)) (C := R_M) (T := F_M) (N := 5) hx hb htb iw_M hown hK hP 0 rfl rfl 2 (by decide) (htb _ mw_163) (fun _ h9 => h9) rfl d_M_land_32 ?_
        refine va_get (D := D) (ci := 3) (v := .ref (ad 19)) (C := R_X) (T := F_X) (N := 9) hx hb htb iw_X hown hK hP 15 rfl rfl 4 (by decide) (htb _ mw_133) (fun _ h9 => h9) rfl d_M_land_35 ?_
        refine lv_iload_n hx hb d_M_land_38 rfl (lv_at hl 1 rfl) ?_
        refine lv_iload_n hx hb d_M_land_39 rfl (lv_at hl 2 rfl) ?_
        refine q_iast hx hb hK hP hD hS 19 15 rfl rfl k (x := y) (by omega) (by decide) d_M_land_40 (fun H locs hP hD hS => ?_)
        have hP : va_P D classes (wA ad kd (up g 19 k y) z v) H := hP
        have hD : va_D A (wA ad kd (up g 19 k y) z v) := hD
        refine lv_iconst (v := 1) hx hb d_M_land_41 (by decide) ?_
        exact hret _ _ _ _ _ (by simp [lanR, bI, c1, ek, mk, c2, c3]) (by rw [show lanG g nx (nI k) y = (up g 19 k y) by simp [lanG, lanR, c1, ek, mk, c2, c3]]; exact hP) hS d_M_land_42
      · replace c3 := bI_f c3
        refine lv_iconst (v := 0) hx hb d_M_land_29 (by decide) ?_
        exact hret _ _ _ _ _ (by simp [lanR, bI, c1, ek, mk, c2, c3]) (by rw [show lanG g nx (nI k) y = g by simp [lanG, lanR, c1, ek, mk, c2, c3]]; exact hP) hS d_M_land_30
set_option maxHeartbeats 4000000 in
set_option maxRecDepth 100000 in
theorem c_M_arrive (l : Launch) (D : va_G) (ad : Nat → Nat) (kd : Nat → ClassId) (g : Nat → Nat → Int32) (z : Nat → Int64) (v : Nat → Int32) (x : Int32) : WRi l y_M_arrive (.code y_M_arrive b_M_arrive 2 (some .boolean) :: TB) ({ frames := 1, cells := 0, slots := 0, locals := 21 } : Room) [.ref (ad 0), .int x] D classes (wA ad kd g z v) (wA ad kd g z (arvV v x)) (tA kd) (bI (arrR v x)) := by
  refine wr_of (by decide +kernel) (bI_nar _) (Nat.le_of_ble_eq_true rfl) ?_
  intro p e s m args below meth c Q ls A hx hb hml htb hown hP hK hD hS hA hl hret
  have hl : lv_has ls 2 [(0, .ref (ad 0)), (1, .int x)] := hl
  refine lv_iload_n hx hb d_M_arrive_0 rfl (lv_at hl 1 rfl) ?_
  refine rdS (As := [.int x]) (rest := []) ⟨hx, hb, hml, hown, htb⟩ (c_M_isCall l D (wA ad kd g z v) (tA kd) x) (va_cwS 1 htb (gS tb_good mw_227 mw_228 mw_27 mw_229) rfl rfl rfl (by decide +kernel) ⟨Nat.le_of_ble_eq_true rfl, Nat.le_of_ble_eq_true rfl⟩) hP hK rfl hl.1 rfl (lv_room (Nat.le_of_ble_eq_true rfl)) d_M_arrive_1 ⟨Nat.zero_le _, Nat.zero_le _⟩ ?_
  refine lv_if_eq (tgt := 15) hx hb d_M_arrive_4 (by decide) (fun c1 => ?_) (fun c1 => ?_)
  · replace c1 := bI_f c1
    refine lv_iconst (v := 0) hx hb d_M_arrive_15 (by decide) ?_
    exact hret _ _ _ _ _ (by simp [arrR, bI, c1]) (by rw [show arvV v x = v by simp [arvV, arrR, c1]]; exact hP) hS d_M_arrive_16
  · replace c1 := bI_t c1
    refine lv_aload_n hx hb d_M_arrive_7 rfl (lv_at hl 0 rfl) ?_
    refine lv_iload_n hx hb d_M_arrive_8 rfl (lv_at hl 1 rfl) ?_
    refine rdV (As := [.int x]) (rest := []) (b := ad 0) ⟨hx, hb, hml, hown, htb⟩ (c_M_hasArrived l D ad kd g z v x) (cwV (C := R_M) 1 htb (gV tb_good mw_230 mw_232 mw_0 mw_27 mw_233) rfl rfl rfl (by decide +kernel) ⟨Nat.le_of_ble_eq_true rfl, Nat.le_of_ble_eq_true rfl⟩) hP hK (va_recv hK hP (ci := 0) (q0 := 0) rfl rfl) rfl hl.1 rfl (lv_room (Nat.le_of_ble_eq_true rfl)) d_M_arrive_9 ⟨Nat.zero_le _, Nat.zero_le _⟩ ?_
    refine lv_if_eq (tgt := 17) hx hb d_M_arrive_12 (by decide) (fun c2 => ?_) (fun c2 => ?_)
    · replace c2 := bI_f c2
      refine lv_aload_n hx hb d_M_arrive_17 rfl (lv_at hl 0 rfl) ?_
      refine lv_dup hx hb d_M_arrive_18 rfl ?_
      refine va_get (D := D) (ci := 0) (v := .int (v 0)) (C := R_M) (T := F_M) (N := 5) hx hb htb iw_M hown hK hP 0 rfl rfl 3 (by decide) (htb _ mw_164) (fun _ h9 => h9) rfl d_M_arrive_19 ?_
      refine lv_iconst (v := 1) hx hb d_M_arrive_22 (by decide) ?_
      refine lv_iload_n hx hb d_M_arrive_23 rfl (lv_at hl 1 rfl) ?_
      refine lv_ishl hx hb d_M_arrive_24 ?_
      refine lv_ior hx hb d_M_arrive_25 ?_
      refine va_put (D := D) (ci := 0) (v := .int ((v 0) ||| ((1 : Int32) <<< (x &&& 31)))) (ty := .int) (C := R_M) (T := F_M) (N := 5) hx hb htb iw_M t_M t_M_ok n_M hown hK hP hD hS 0 rfl rfl 3 (by decide) (htb _ mw_164) (fun _ h9 => h9) rfl (by decide +kernel) rfl rfl (Nat.le_of_ble_eq_true rfl) d_M_arrive_26 (fun H locs hP hD hS => ?_)
      have hP : va_P D classes (wA ad kd g z (upd v 0 ((v 0) ||| ((1 : Int32) <<< (x &&& 31))))) H := hP
      have hD : va_D A (wA ad kd g z (upd v 0 ((v 0) ||| ((1 : Int32) <<< (x &&& 31))))) := hD
      refine lv_iconst (v := 1) hx hb d_M_arrive_29 (by decide) ?_
      exact hret _ _ _ _ _ (by simp [arrR, bI, c1, c2]) (by rw [show arvV v x = (upd v 0 ((v 0) ||| ((1 : Int32) <<< (x &&& 31)))) by simp [arvV, arrR, c1, c2]]; exact hP) hS d_M_arrive_30
    · replace c2 := bI_t c2
      refine lv_iconst (v := 0) hx hb d_M_arrive_15 (by decide) ?_
      exact hret _ _ _ _ _ (by simp [arrR, bI, c1, c2]) (by rw [show arvV v x = v by simp [arvV, arrR, c1, c2]]; exact hP) hS d_M_arrive_16
set_option maxHeartbeats 4000000 in
set_option maxRecDepth 100000 in
theorem c_M_leg (l : Launch) (D : va_G) (ad : Nat → Nat) (kd : Nat → ClassId) (g : Nat → Nat → Int32) (z : Nat → Int64) (v : Nat → Int32) (nx : Nat) (hnx : v 4 = nI nx) (hx6 : nx ≤ 60) (x y : Int32) : WRi l y_M_leg (.code y_M_leg b_M_leg 3 (some .boolean) :: TB) ({ frames := 2, cells := 0, slots := 0, locals := 44 } : Room) [.ref (ad 0), .int x, .int y] D classes (wA ad kd g z v) (wA ad kd (legG g nx x y) z v) (tA kd) (bI (legR g nx x y)) := by
  refine wr_of (by decide +kernel) (bI_nar _) (Nat.le_of_ble_eq_true rfl) ?_
  intro p e s m args below meth c Q ls A hx hb hml htb hown hP hK hD hS hA hl hret
  have hl : lv_has ls 3 [(0, .ref (ad 0)), (1, .int x), (2, .int y)] := hl
  refine lv_aload_n hx hb d_M_leg_0 rfl (lv_at hl 0 rfl) ?_
  refine va_get (D := D) (ci := 0) (v := .ref (ad 15)) (C := R_M) (T := F_M) (N := 5) hx hb htb iw_M hown hK hP 0 rfl rfl 2 (by decide) (htb _ mw_163) (fun _ h9 => h9) rfl d_M_leg_1 ?_
  refine lv_iload_n hx hb d_M_leg_4 rfl (lv_at hl 1 rfl) ?_
  refine rdV (As := [.int x]) (rest := []) (b := ad 15) ⟨hx, hb, hml, hown, htb⟩ (c_X_has l D ad kd g z v nx hnx hx6 x) (cwV (C := R_X) 1 htb (gV tb_good mw_181 mw_182 mw_183 mw_30 mw_184) rfl rfl rfl (by decide +kernel) ⟨Nat.le_of_ble_eq_true rfl, Nat.le_of_ble_eq_true rfl⟩) hP hK (va_recv hK hP (ci := 3) (q0 := 15) rfl rfl) rfl hl.1 rfl (lv_room (Nat.le_of_ble_eq_true rfl)) d_M_leg_5 ⟨Nat.zero_le _, Nat.zero_le _⟩ ?_
  refine lv_if_eq (tgt := 43) hx hb d_M_leg_8 (by decide) (fun c1 => ?_) (fun c1 => ?_)
  · replace c1 := bI_f c1
    refine lv_iconst (v := 0) hx hb d_M_leg_43 (by decide) ?_
    exact hret _ _ _ _ _ (by simp [legR, bI, c1]) (by rw [show legG g nx x y = g by simp [legG, legR, c1]]; exact hP) hS d_M_leg_44
  · replace c1 := bI_t c1
    obtain ⟨k, hk, rfl⟩ := inN_ix c1 (by omega)
    have ek : ix (nI k) = k := ix_nI (by omega)
    have mk : ¬ nI k = -1 := nI_nm1 (by omega)
    refine lv_aload_n hx hb d_M_leg_11 rfl (lv_at hl 0 rfl) ?_
    refine va_get (D := D) (ci := 0) (v := .ref (ad 15)) (C := R_M) (T := F_M) (N := 5) hx hb htb iw_M hown hK hP 0 rfl rfl 2 (by decide) (htb _ mw_163) (fun _ h9 => h9) rfl d_M_leg_12 ?_
    refine lv_iload_n hx hb d_M_leg_15 rfl (lv_at hl 2 rfl) ?_
    refine rdV (As := [.int y]) (rest := []) (b := ad 15) ⟨hx, hb, hml, hown, htb⟩ (c_X_has l D ad kd g z v nx hnx hx6 y) (cwV (C := R_X) 1 htb (gV tb_good mw_181 mw_182 mw_183 mw_30 mw_184) rfl rfl rfl (by decide +kernel) ⟨Nat.le_of_ble_eq_true rfl, Nat.le_of_ble_eq_true rfl⟩) hP hK (va_recv hK hP (ci := 3) (q0 := 15) rfl rfl) rfl hl.1 rfl (lv_room (Nat.le_of_ble_eq_true rfl)) d_M_leg_16 ⟨Nat.zero_le _, Nat.zero_le _⟩ ?_
    refine lv_if_eq (tgt := 43) hx hb d_M_leg_19 (by decide) (fun c2 => ?_) (fun c2 => ?_)
    · replace c2 := bI_f c2
      refine lv_iconst (v := 0) hx hb d_M_leg_43 (by decide) ?_
      exact hret _ _ _ _ _ (by simp [legR, bI, c1, ek, mk, c2]) (by rw [show legG g nx (nI k) y = g by simp [legG, legR, c1, ek, mk, c2]]; exact hP) hS d_M_leg_44
    · replace c2 := bI_t c2
      obtain ⟨j, hj, rfl⟩ := inN_ix c2 (by omega)
      have ej : ix (nI j) = j := ix_nI (by omega)
      have mj : ¬ nI j = -1 := nI_nm1 (by omega)
      refine lv_aload_n hx hb d_M_leg_22 rfl (lv_at hl 0 rfl) ?_
      refine va_get (D := D) (ci := 0) (v := .ref (ad 15)) (C := R_M) (T := F_M) (N := 5) hx hb htb iw_M hown hK hP 0 rfl rfl 2 (by decide) (htb _ mw_163) (fun _ h9 => h9) rfl d_M_leg_23 ?_
      refine va_get (D := D) (ci := 3) (v := .ref (ad 16)) (C := R_X) (T := F_X) (N := 9) hx hb htb iw_X hown hK hP 15 rfl rfl 1 (by decide) (htb _ mw_127) (fun _ h9 => h9) rfl d_M_leg_26 ?_
      refine lv_iload_n hx hb d_M_leg_29 rfl (lv_at hl 1 rfl) ?_
      refine q_iald hx hb hK hP 16 12 rfl rfl k (by omega) (by decide) d_M_leg_30 ?_
      refine lv_aload_n hx hb d_M_leg_31 rfl (lv_at hl 0 rfl) ?_
      refine va_get (D := D) (ci := 0) (v := .ref (ad 15)) (C := R_M) (T := F_M) (N := 5) hx hb htb iw_M hown hK hP 0 rfl rfl 2 (by decide) (htb _ mw_163) (fun _ h9 => h9) rfl d_M_leg_32 ?_
      refine va_get (D := D) (ci := 3) (v := .ref (ad 16)) (C := R_X) (T := F_X) (N := 9) hx hb htb iw_X hown hK hP 15 rfl rfl 1 (by decide) (htb _ mw_127) (fun _ h9 => h9) rfl d_M_leg_35 ?_
      refine lv_iload_n hx hb d_M_leg_38 rfl (lv_at hl 2 rfl) ?_
      refine q_iald hx hb hK hP 16 12 rfl rfl j (by omega) (by decide) d_M_leg_39 ?_
      refine lv_icmp_ne (tgt := 45) hx hb d_M_leg_40 (by decide) (fun c3 => ?_) (fun c3 => ?_)
      · refine lv_aload_n hx hb d_M_leg_45 rfl (lv_at hl 0 rfl) ?_
        refine va_get (D := D) (ci := 0) (v := .ref (ad 15)) (C := R_M) (T := F_M) (N := 5) hx hb htb iw_M hown hK hP 0 rfl rfl 2 (by decide) (htb _ mw_163) (fun _ h9 => h9) rfl d_M_leg_46 ?_
        refine va_get (D := D) (ci := 3) (v := .ref (ad 22)) (C := R_X) (T := F_X) (N := 9) hx hb htb iw_X hown hK hP 15 rfl rfl 7 (by decide) (htb _ mw_138) (fun _ h9 => h9) rfl d_M_leg_49 ?_
        refine lv_iload_n hx hb d_M_leg_52 rfl (lv_at hl 1 rfl) ?_
        refine q_iald hx hb hK hP 22 18 rfl rfl k (by omega) (by decide) d_M_leg_53 ?_
        refine lv_iconst (v := (-1)) hx hb d_M_leg_54 (by decide) ?_
        refine lv_icmp_ne (tgt := 83) hx hb d_M_leg_55 (by decide) (fun c4 => ?_) (fun c4 => ?_)
        · refine lv_iconst (v := 0) hx hb d_M_leg_83 (by decide) ?_
          exact hret _ _ _ _ _ (by simp [legR, bI, c1, ek, mk, c2, ej, mj, c3, c4]) (by rw [show legG g nx (nI k) (nI j) = g by simp [legG, legR, c1, ek, mk, c2, ej, mj, c3, c4]]; exact hP) hS d_M_leg_84
        · refine lv_aload_n hx hb d_M_leg_58 rfl (lv_at hl 0 rfl) ?_
          refine va_get (D := D) (ci := 0) (v := .ref (ad 15)) (C := R_M) (T := F_M) (N := 5) hx hb htb iw_M hown hK hP 0 rfl rfl 2 (by decide) (htb _ mw_163) (fun _ h9 => h9) rfl d_M_leg_59 ?_
          refine va_get (D := D) (ci := 3) (v := .ref (ad 23)) (C := R_X) (T := F_X) (N := 9) hx hb htb iw_X hown hK hP 15 rfl rfl 8 (by decide) (htb _ mw_140) (fun _ h9 => h9) rfl d_M_leg_62 ?_
          refine lv_iload_n hx hb d_M_leg_65 rfl (lv_at hl 2 rfl) ?_
          refine q_iald hx hb hK hP 23 19 rfl rfl j (by omega) (by decide) d_M_leg_66 ?_
          refine lv_iconst (v := (-1)) hx hb d_M_leg_67 (by decide) ?_
          refine lv_icmp_ne (tgt := 83) hx hb d_M_leg_68 (by decide) (fun c5 => ?_) (fun c5 => ?_)
          · refine lv_iconst (v := 0) hx hb d_M_leg_83 (by decide) ?_
            exact hret _ _ _ _ _ (by simp [legR, bI, c1, ek, mk, c2, ej, mj, c3, c4, c5]) (by rw [show legG g nx (nI k) (nI j) = g by simp [legG, legR, c1, ek, mk, c2, ej, mj, c3, c4, c5]]; exact hP) hS d_M_leg_84
          · refine lv_aload_n hx hb d_M_leg_71 rfl (lv_at hl 0 rfl) ?_
            refine va_get (D := D) (ci := 0) (v := .ref (ad 15)) (C := R_M) (T := F_M) (N := 5) hx hb htb iw_M hown hK hP 0 rfl rfl 2 (by decide) (htb _ mw_163) (fun _ h9 => h9) rfl d_M_leg_72 ?_
            refine lv_iload_n hx hb d_M_leg_75 rfl (lv_at hl 1 rfl) ?_
            refine rdV (As := [.int (nI k)]) (rest := []) (b := ad 15) ⟨hx, hb, hml, hown, htb⟩ (c_X_first l D ad kd g z v nx hnx hx6 k (by omega)) (cwV (C := R_X) 1 htb (gV tb_good mw_238 mw_239 mw_240 mw_30 mw_241) rfl rfl rfl (by decide +kernel) ⟨Nat.le_of_ble_eq_true rfl, Nat.le_of_ble_eq_true rfl⟩) hP hK (va_recv hK hP (ci := 3) (q0 := 15) rfl rfl) rfl hl.1 rfl (lv_room (Nat.le_of_ble_eq_true rfl)) d_M_leg_76 ⟨Nat.zero_le _, Nat.zero_le _⟩ ?_
            have hfl := firL_lt (g := g) hx6 60 k (by omega)
            refine lv_iload_n hx hb d_M_leg_79 rfl (lv_at hl 2 rfl) ?_
            refine q_icmp_ne (a := (firL g nx 60 k)) (b := j) (tgt := 85) hx hb (by omega) (by omega) d_M_leg_80 (by decide) (fun c6 => ?_) (fun c6 => ?_)
            · refine lv_aload_n hx hb d_M_leg_85 rfl (lv_at hl 0 rfl) ?_
              refine va_get (D := D) (ci := 0) (v := .ref (ad 15)) (C := R_M) (T := F_M) (N := 5) hx hb htb iw_M hown hK hP 0 rfl rfl 2 (by decide) (htb _ mw_163) (fun _ h9 => h9) rfl d_M_leg_86 ?_
              refine va_get (D := D) (ci := 3) (v := .ref (ad 22)) (C := R_X) (T := F_X) (N := 9) hx hb htb iw_X hown hK hP 15 rfl rfl 7 (by decide) (htb _ mw_138) (fun _ h9 => h9) rfl d_M_leg_89 ?_
              refine lv_iload_n hx hb d_M_leg_92 rfl (lv_at hl 1 rfl) ?_
              refine lv_iload_n hx hb d_M_leg_93 rfl (lv_at hl 2 rfl) ?_
              refine q_iast hx hb hK hP hD hS 22 18 rfl rfl k (x := (nI j)) (by omega) (by decide) d_M_leg_94 (fun H locs hP hD hS => ?_)
              have hP : va_P D classes (wA ad kd (up g 22 k (nI j)) z v) H := hP
              have hD : va_D A (wA ad kd (up g 22 k (nI j)) z v) := hD
              refine lv_aload_n hx hb d_M_leg_95 rfl (lv_at hl 0 rfl) ?_
              refine va_get (D := D) (ci := 0) (v := .ref (ad 15)) (C := R_M) (T := F_M) (N := 5) hx hb htb iw_M hown hK hP 0 rfl rfl 2 (by decide) (htb _ mw_163) (fun _ h9 => h9) rfl d_M_leg_96 ?_
              refine va_get (D := D) (ci := 3) (v := .ref (ad 23)) (C := R_X) (T := F_X) (N := 9) hx hb htb iw_X hown hK hP 15 rfl rfl 8 (by decide) (htb _ mw_140) (fun _ h9 => h9) rfl d_M_leg_99 ?_
              refine lv_iload_n hx hb d_M_leg_102 rfl (lv_at hl 2 rfl) ?_
              refine lv_iload_n hx hb d_M_leg_103 rfl (lv_at hl 1 rfl) ?_
              refine q_iast hx hb hK hP hD hS 23 19 rfl rfl j (x := (nI k)) (by omega) (by decide) d_M_leg_104 (fun H locs hP hD hS => ?_)
              have hP : va_P D classes (wA ad kd (up (up g 22 k (nI j)) 23 j (nI k)) z v) H := hP
              have hD : va_D A (wA ad kd (up (up g 22 k (nI j)) 23 j (nI k)) z v) := hD
              refine lv_iconst (v := 1) hx hb d_M_leg_105 (by decide) ?_
              exact hret _ _ _ _ _ (by simp [legR, bI, c1, ek, mk, c2, ej, mj, c3, c4, c5, c6]) (by rw [show legG g nx (nI k) (nI j) = (up (up g 22 k (nI j)) 23 j (nI k)) by simp [legG, legR, c1, ek, mk, c2, ej, mj, c3, c4, c5, c6]]; exact hP) hS d_M_leg_106
            · refine lv_iconst (v := 0) hx hb d_M_leg_83 (by decide) ?_
              exact hret _ _ _ _ _ (by simp [legR, bI, c1, ek, mk, c2, ej, mj, c3, c4, c5, c6]) (by rw [show legG g nx (nI k) (nI j) = g by simp [legG, legR, c1, ek, mk, c2, ej, mj, c3, c4, c5, c6]]; exact hP) hS d_M_leg_84
      · refine lv_iconst (v := 0) hx hb d_M_leg_43 (by decide) ?_
        exact hret _ _ _ _ _ (by simp [legR, bI, c1, ek, mk, c2, ej, mj, c3]) (by rw [show legG g nx (nI k) (nI j) = g by simp [legG, legR, c1, ek, mk, c2, ej, mj, c3]]; exact hP) hS d_M_leg_44
set_option maxHeartbeats 4000000 in
set_option maxRecDepth 100000 in
theorem c_M_waits (l : Launch) (D : va_G) (ad : Nat → Nat) (kd : Nat → ClassId) (g : Nat → Nat → Int32) (z : Nat → Int64) (v : Nat → Int32) (nx : Nat) (hnx : v 4 = nI nx) (hx6 : nx ≤ 60) (x : Int32) : RD l y_M_waits (.code y_M_waits b_M_waits 4 (some .int) :: TB) ({ frames := 2, cells := 0, slots := 0, locals := 42 } : Room) [.ref (ad 0), .int x] D classes (wA ad kd g z v) (tA kd) (pickN (fun k => waiX g z k) x nx) := by
  refine rd_of (by decide +kernel) (rfl) (Nat.le_of_ble_eq_true rfl) ?_
  intro p e s m args below meth c Q ls hx hb hml htb hown hP hK hl hret
  have hl : lv_has ls 4 [(0, .ref (ad 0)), (1, .int x)] := hl
  refine lv_iconst (v := 0) hx hb d_M_waits_0 (by decide) ?_
  refine lv_istore_n (lv' := [(2, .int 0), (0, .ref (ad 0)), (1, .int x)]) hx hb d_M_waits_1 rfl hl (by decide) rfl (fun ls hl => ?_)
  refine lv_iconst (v := 0) hx hb d_M_waits_2 (by decide) ?_
  refine lv_istore_n (lv' := [(3, .int 0), (2, .int 0), (0, .ref (ad 0)), (1, .int x)]) hx hb d_M_waits_3 rfl hl (by decide) rfl (fun ls hl => ?_)
  have lp4 : ∀ (n : Nat) (i : Nat) (f : Nat), i ≤ nx → nx + 1 ≤ i + n → f = cntN (fun k => waiX g z k) i → pickN (fun k => waiX g z k) x i = -1 → ∀ (ls : Array Slot), lv_has ls 4 [(0, .ref (ad 0)), (1, .int x), (2, .int (nI f)), (3, .int (nI i))] → W p l e ({ frames := 2, cells := 0, slots := 0, locals := 42 } : Room) s m args below meth c s.heap [] 0 0 Q (F0 m 4 ls []) := by
    intro n
    induction n with
    | zero => intro i f hi hm hf hp ls hl; exact absurd hm (by omega)
    | succ n ih =>
      intro i f hi hm hf hp ls hl
      refine lv_iload_n hx hb d_M_waits_4 rfl (lv_at hl 3 rfl) ?_
      refine lv_aload_n hx hb d_M_waits_5 rfl (lv_at hl 0 rfl) ?_
      refine va_get (D := D) (ci := 0) (v := .ref (ad 15)) (C := R_M) (T := F_M) (N := 5) hx hb htb iw_M hown hK hP 0 rfl rfl 2 (by decide) (htb _ mw_163) (fun _ h9 => h9) rfl d_M_waits_6 ?_
      refine va_get (D := D) (ci := 3) (v := .int (nI nx)) (C := R_X) (T := F_X) (N := 9) hx hb htb iw_X hown hK hP 15 rfl rfl 0 (by decide) (htb _ mw_125) (fun _ h9 => h9) (congrArg (fun x => some (Value.int x)) hnx) d_M_waits_9 ?_
      refine q_icmp_ge (a := i) (b := nx) (tgt := 42) hx hb (by omega) (by omega) d_M_waits_12 (by decide) (fun c1 => ?_) (fun c1 => ?_)
      · refine lv_iconst (v := (-1)) hx hb d_M_waits_42 (by decide) ?_
        exact hret _ _ _ (by rw [show nx = i by omega, hp]) d_M_waits_43
      · refine lv_aload_n hx hb d_M_waits_15 rfl (lv_at hl 0 rfl) ?_
        refine va_get (D := D) (ci := 0) (v := .ref (ad 15)) (C := R_M) (T := F_M) (N := 5) hx hb htb iw_M hown hK hP 0 rfl rfl 2 (by decide) (htb _ mw_163) (fun _ h9 => h9) rfl d_M_waits_16 ?_
        refine lv_iload_n hx hb d_M_waits_19 rfl (lv_at hl 3 rfl) ?_
        refine rdV (As := [.int (nI i)]) (rest := []) (b := ad 15) ⟨hx, hb, hml, hown, htb⟩ (c_X_isWaiting l D ad kd g z v i (by omega)) (cwV (C := R_X) 1 htb (gV tb_good mw_247 mw_248 mw_249 mw_30 mw_250) rfl rfl rfl (by decide +kernel) ⟨Nat.le_of_ble_eq_true rfl, Nat.le_of_ble_eq_true rfl⟩) hP hK (va_recv hK hP (ci := 3) (q0 := 15) rfl rfl) rfl hl.1 rfl (lv_room (Nat.le_of_ble_eq_true rfl)) d_M_waits_20 ⟨Nat.zero_le _, Nat.zero_le _⟩ ?_
        refine lv_if_eq (tgt := 36) hx hb d_M_waits_23 (by decide) (fun c2 => ?_) (fun c2 => ?_)
        · replace c2 := bI_f c2
          refine lv_iinc (v := (nI (i + 1))) (lv' := [(3, .int (nI (i + 1))), (0, .ref (ad 0)), (1, .int x), (2, .int (nI f))]) hx hb d_M_waits_36 hl (k := 3) rfl (q_inc _) (by decide) rfl (fun ls hl => ?_)
          refine lv_goto (tgt := 4) hx hb d_M_waits_39 (by decide) ?_
          exact ih (i + 1) f (by omega) (by omega) (by rw [cntN_f (by simp [c1, c2]), hf]) (pickN_miss hp (by simp [c1, c2])) _ (lv_sub hl [1, 2, 3, 0] rfl)
        · replace c2 := bI_t c2
          refine lv_iload_n hx hb d_M_waits_26 rfl (lv_at hl 2 rfl) ?_
          refine lv_iload_n hx hb d_M_waits_27 rfl (lv_at hl 1 rfl) ?_
          refine lv_icmp_ne (tgt := 33) hx hb d_M_waits_28 (by decide) (fun c3 => ?_) (fun c3 => ?_)
          · refine lv_iinc (v := (nI (f + 1))) (lv' := [(2, .int (nI (f + 1))), (0, .ref (ad 0)), (1, .int x), (3, .int (nI i))]) hx hb d_M_waits_33 hl (k := 2) rfl (q_inc _) (by decide) rfl (fun ls hl => ?_)
            refine lv_iinc (v := (nI (i + 1))) (lv' := [(3, .int (nI (i + 1))), (2, .int (nI (f + 1))), (0, .ref (ad 0)), (1, .int x)]) hx hb d_M_waits_36 hl (k := 3) rfl (q_inc _) (by decide) rfl (fun ls hl => ?_)
            refine lv_goto (tgt := 4) hx hb d_M_waits_39 (by decide) ?_
            exact ih (i + 1) (f + 1) (by omega) (by omega) (by rw [cntN_t (by simp [c1, c2, c3]), hf]) (pickN_pass hp (by rw [← hf]; assumption)) _ (lv_sub hl [2, 3, 1, 0] rfl)
          · refine lv_iload_n hx hb d_M_waits_31 rfl (lv_at hl 3 rfl) ?_
            exact hret _ _ _ (by rw [pickN_hit (i := i) (by omega) hp (by simp [c1, c2, c3]) (by rw [← hf]; assumption) (by omega)]) d_M_waits_32
  exact lp4 (nx + 1) 0 0 (Nat.zero_le _) (by omega) rfl rfl _ (lv_sub hl [2, 3, 1, 0] rfl)
set_option maxHeartbeats 4000000 in
set_option maxRecDepth 100000 in
theorem c_M_count (l : Launch) (D : va_G) (ad : Nat → Nat) (kd : Nat → ClassId) (g : Nat → Nat → Int32) (z : Nat → Int64) (v : Nat → Int32) (nb : Nat) (hnb : v 2 = nI nb) (hb6 : nb ≤ 60) (nx : Nat) (hnx : v 4 = nI nx) (hx6 : nx ≤ 60) (nl : Nat) (hnl : v 3 = nI nl) (hl2 : nl ≤ 200) (k : Nat) (hk : k < 9) : RD l y_M_count (.code y_M_count b_M_count 2 (some .int) :: TB) ({ frames := 3, cells := 0, slots := 0, locals := 68 } : Room) [.ref (ad 0), .int (nI k)] D classes (wA ad kd g z v) (tA kd) (cntS g z v nb nl nx k) := by
  refine rd_of (by decide +kernel) (rfl) (Nat.le_of_ble_eq_true rfl) ?_
  intro p e s m args below meth c Q ls hx hb hml htb hown hP hK hl hret
  have hl : lv_has ls 2 [(0, .ref (ad 0)), (1, .int (nI k))] := hl
  refine lv_iload_n hx hb d_M_count_0 rfl (lv_at hl 1 rfl) ?_
  rcases (show k = 0 ∨ k = 1 ∨ k = 2 ∨ k = 3 ∨ k = 4 ∨ k = 5 ∨ k = 6 ∨ k = 7 ∨ k = 8 by omega) with rfl | rfl | rfl | rfl | rfl | rfl | rfl | rfl | rfl
  · refine lv_tableIn (tgt := 52) hx hb d_M_count_1 (by decide) (by decide) rfl (by decide) ?_
    refine lv_aload_n hx hb d_M_count_52 rfl (lv_at hl 0 rfl) ?_
    refine va_get (D := D) (ci := 0) (v := .ref (ad 1)) (C := R_M) (T := F_M) (N := 5) hx hb htb iw_M hown hK hP 0 rfl rfl 0 (by decide) (htb _ mw_161) (fun _ h9 => h9) rfl d_M_count_53 ?_
    refine va_get (D := D) (ci := 1) (v := .int (nI nb)) (C := R_B) (T := F_B) (N := 8) hx hb htb iw_B hown hK hP 1 rfl rfl 0 (by decide) (htb _ mw_56) (fun _ h9 => h9) (congrArg (fun x => some (Value.int x)) hnb) d_M_count_56 ?_
    exact hret _ _ _ rfl d_M_count_59
  · refine lv_tableIn (tgt := 60) hx hb d_M_count_1 (by decide) (by decide) rfl (by decide) ?_
    refine lv_aload_n hx hb d_M_count_60 rfl (lv_at hl 0 rfl) ?_
    refine va_get (D := D) (ci := 0) (v := .ref (ad 15)) (C := R_M) (T := F_M) (N := 5) hx hb htb iw_M hown hK hP 0 rfl rfl 2 (by decide) (htb _ mw_163) (fun _ h9 => h9) rfl d_M_count_61 ?_
    refine va_get (D := D) (ci := 3) (v := .int (nI nx)) (C := R_X) (T := F_X) (N := 9) hx hb htb iw_X hown hK hP 15 rfl rfl 0 (by decide) (htb _ mw_125) (fun _ h9 => h9) (congrArg (fun x => some (Value.int x)) hnx) d_M_count_64 ?_
    exact hret _ _ _ rfl d_M_count_67
  · refine lv_tableIn (tgt := 68) hx hb d_M_count_1 (by decide) (by decide) rfl (by decide) ?_
    refine lv_aload_n hx hb d_M_count_68 rfl (lv_at hl 0 rfl) ?_
    refine va_get (D := D) (ci := 0) (v := .ref (ad 9)) (C := R_M) (T := F_M) (N := 5) hx hb htb iw_M hown hK hP 0 rfl rfl 1 (by decide) (htb _ mw_162) (fun _ h9 => h9) rfl d_M_count_69 ?_
    refine va_get (D := D) (ci := 2) (v := .int (nI nl)) (C := R_N) (T := F_N) (N := 6) hx hb htb iw_N hown hK hP 9 rfl rfl 0 (by decide) (htb _ mw_96) (fun _ h9 => h9) (congrArg (fun x => some (Value.int x)) hnl) d_M_count_72 ?_
    exact hret _ _ _ rfl d_M_count_75
  · refine lv_tableIn (tgt := 76) hx hb d_M_count_1 (by decide) (by decide) rfl (by decide) ?_
    refine lv_aload_n hx hb d_M_count_76 rfl (lv_at hl 0 rfl) ?_
    refine va_get (D := D) (ci := 0) (v := .int (v 1)) (C := R_M) (T := F_M) (N := 5) hx hb htb iw_M hown hK hP 0 rfl rfl 4 (by decide) (htb _ mw_165) (fun _ h9 => h9) rfl d_M_count_77 ?_
    exact hret _ _ _ rfl d_M_count_80
  · refine lv_tableIn (tgt := 81) hx hb d_M_count_1 (by decide) (by decide) rfl (by decide) ?_
    refine lv_aload_n hx hb d_M_count_81 rfl (lv_at hl 0 rfl) ?_
    refine va_get (D := D) (ci := 0) (v := .ref (ad 15)) (C := R_M) (T := F_M) (N := 5) hx hb htb iw_M hown hK hP 0 rfl rfl 2 (by decide) (htb _ mw_163) (fun _ h9 => h9) rfl d_M_count_82 ?_
    refine rdV (As := []) (rest := []) (b := ad 15) ⟨hx, hb, hml, hown, htb⟩ (c_X_orderedOnes l D ad kd g z v nx hnx hx6) (cwV (C := R_X) 0 htb (gV tb_good mw_256 mw_257 mw_258 mw_30 mw_259) rfl rfl rfl (by decide +kernel) ⟨Nat.le_of_ble_eq_true rfl, Nat.le_of_ble_eq_true rfl⟩) hP hK (va_recv hK hP (ci := 3) (q0 := 15) rfl rfl) rfl hl.1 rfl (lv_room (Nat.le_of_ble_eq_true rfl)) d_M_count_85 ⟨Nat.zero_le _, Nat.zero_le _⟩ ?_
    exact hret _ _ _ rfl d_M_count_88
  · refine lv_tableIn (tgt := 89) hx hb d_M_count_1 (by decide) (by decide) rfl (by decide) ?_
    refine lv_aload_n hx hb d_M_count_89 rfl (lv_at hl 0 rfl) ?_
    refine va_get (D := D) (ci := 0) (v := .ref (ad 15)) (C := R_M) (T := F_M) (N := 5) hx hb htb iw_M hown hK hP 0 rfl rfl 2 (by decide) (htb _ mw_163) (fun _ h9 => h9) rfl d_M_count_90 ?_
    refine rdV (As := []) (rest := []) (b := ad 15) ⟨hx, hb, hml, hown, htb⟩ (c_X_landedOnes l D ad kd g z v nx hnx hx6) (cwV (C := R_X) 0 htb (gV tb_good mw_261 mw_262 mw_263 mw_30 mw_264) rfl rfl rfl (by decide +kernel) ⟨Nat.le_of_ble_eq_true rfl, Nat.le_of_ble_eq_true rfl⟩) hP hK (va_recv hK hP (ci := 3) (q0 := 15) rfl rfl) rfl hl.1 rfl (lv_room (Nat.le_of_ble_eq_true rfl)) d_M_count_93 ⟨Nat.zero_le _, Nat.zero_le _⟩ ?_
    exact hret _ _ _ rfl d_M_count_96
  · refine lv_tableIn (tgt := 97) hx hb d_M_count_1 (by decide) (by decide) rfl (by decide) ?_
    refine lv_aload_n hx hb d_M_count_97 rfl (lv_at hl 0 rfl) ?_
    refine va_get (D := D) (ci := 0) (v := .ref (ad 15)) (C := R_M) (T := F_M) (N := 5) hx hb htb iw_M hown hK hP 0 rfl rfl 2 (by decide) (htb _ mw_163) (fun _ h9 => h9) rfl d_M_count_98 ?_
    refine rdV (As := []) (rest := []) (b := ad 15) ⟨hx, hb, hml, hown, htb⟩ (c_X_waitingOnes l D ad kd g z v nx hnx hx6) (cwV (C := R_X) 0 htb (gV tb_good mw_265 mw_266 mw_267 mw_30 mw_268) rfl rfl rfl (by decide +kernel) ⟨Nat.le_of_ble_eq_true rfl, Nat.le_of_ble_eq_true rfl⟩) hP hK (va_recv hK hP (ci := 3) (q0 := 15) rfl rfl) rfl hl.1 rfl (lv_room (Nat.le_of_ble_eq_true rfl)) d_M_count_101 ⟨Nat.zero_le _, Nat.zero_le _⟩ ?_
    exact hret _ _ _ rfl d_M_count_104
  · refine lv_tableIn (tgt := 105) hx hb d_M_count_1 (by decide) (by decide) rfl (by decide) ?_
    refine lv_aload_n hx hb d_M_count_105 rfl (lv_at hl 0 rfl) ?_
    refine va_get (D := D) (ci := 0) (v := .int (v 0)) (C := R_M) (T := F_M) (N := 5) hx hb htb iw_M hown hK hP 0 rfl rfl 3 (by decide) (htb _ mw_164) (fun _ h9 => h9) rfl d_M_count_106 ?_
    exact hret _ _ _ rfl d_M_count_109
  · refine lv_tableIn (tgt := 110) hx hb d_M_count_1 (by decide) (by decide) rfl (by decide) ?_
    refine lv_aload_n hx hb d_M_count_110 rfl (lv_at hl 0 rfl) ?_
    refine rdV (As := []) (rest := []) (b := ad 0) ⟨hx, hb, hml, hown, htb⟩ (c_M_mastersThatDiffer l D ad kd g z v nb hnb hb6) (cwV (C := R_M) 0 htb (gV tb_good mw_270 mw_272 mw_1 mw_27 mw_273) rfl rfl rfl (by decide +kernel) ⟨Nat.le_of_ble_eq_true rfl, Nat.le_of_ble_eq_true rfl⟩) hP hK (va_recv hK hP (ci := 0) (q0 := 0) rfl rfl) rfl hl.1 rfl (lv_room (Nat.le_of_ble_eq_true rfl)) d_M_count_111 ⟨Nat.zero_le _, Nat.zero_le _⟩ ?_
    exact hret _ _ _ rfl d_M_count_114
set_option maxHeartbeats 4000000 in
set_option maxRecDepth 100000 in
theorem c_M_countN (l : Launch) (D : va_G) (ad : Nat → Nat) (kd : Nat → ClassId) (g : Nat → Nat → Int32) (z : Nat → Int64) (v : Nat → Int32) (nb : Nat) (hnb : v 2 = nI nb) (hb6 : nb ≤ 60) (nx : Nat) (hnx : v 4 = nI nx) (hx6 : nx ≤ 60) (nl : Nat) (hnl : v 3 = nI nl) (hl2 : nl ≤ 200) (x : Int32) (ho : x.toInt < 0 ∨ 8 < x.toInt) : RD l y_M_count (.code y_M_count b_M_count 2 (some .int) :: TB) ({ frames := 3, cells := 0, slots := 0, locals := 68 } : Room) [.ref (ad 0), .int x] D classes (wA ad kd g z v) (tA kd) (-1) := by
  refine rd_of (by decide +kernel) (rfl) (Nat.le_of_ble_eq_true rfl) ?_
  intro p e s m args below meth c Q ls hx hb hml htb hown hP hK hl hret
  have hl : lv_has ls 2 [(0, .ref (ad 0)), (1, .int x)] := hl
  refine lv_iload_n hx hb d_M_count_0 rfl (lv_at hl 1 rfl) ?_
  refine lv_tableOut (tgt := 115) hx hb d_M_count_1 ho (by decide) ?_
  refine lv_iconst (v := (-1)) hx hb d_M_count_115 (by decide) ?_
  exact hret _ _ _ rfl d_M_count_116
set_option maxHeartbeats 4000000 in
set_option maxRecDepth 100000 in
theorem c_M_bill (l : Launch) (D : va_G) (ad : Nat → Nat) (kd : Nat → ClassId) (g : Nat → Nat → Int32) (z : Nat → Int64) (v : Nat → Int32) (nb : Nat) (hnb : v 2 = nI nb) (hb6 : nb ≤ 60) (hlt : nb < 60) (x y o : Int32) (hc : isCallS x = true) (hn : isNumS y = true) : WRi l y_M_bill (.code y_M_bill b_M_bill 4 (some .int) :: TB) ({ frames := 2, cells := 0, slots := 0, locals := 46 } : Room) [.ref (ad 0), .int x, .int y, .int o] D classes (wA ad kd g z v) (wA ad kd (if bilR g nb x y o = true then addB g nb x y o 0 else g) z (if bilR g nb x y o = true then upd v 2 (nI nb + 1) else v)) (tA kd) (if bilR g nb x y o = true then nI nb else -1) := by
  refine wr_of (by decide +kernel) (rfl) (Nat.le_of_ble_eq_true rfl) ?_
  intro p e s m args below meth c Q ls A hx hb hml htb hown hP hK hD hS hA hl hret
  have hl : lv_has ls 4 [(0, .ref (ad 0)), (1, .int x), (2, .int y), (3, .int o)] := hl
  refine lv_iload_n hx hb d_M_bill_0 rfl (lv_at hl 1 rfl) ?_
  refine rdS (As := [.int x]) (rest := []) ⟨hx, hb, hml, hown, htb⟩ (c_M_isCall l D (wA ad kd g z v) (tA kd) x) (va_cwS 1 htb (gS tb_good mw_227 mw_228 mw_27 mw_229) rfl rfl rfl (by decide +kernel) ⟨Nat.le_of_ble_eq_true rfl, Nat.le_of_ble_eq_true rfl⟩) hP hK rfl hl.1 rfl (lv_room (Nat.le_of_ble_eq_true rfl)) d_M_bill_1 ⟨Nat.zero_le _, Nat.zero_le _⟩ ?_
  refine lv_if_eq (tgt := 14) hx hb d_M_bill_4 (by decide) (fun c1 => ?_) (fun c1 => ?_)
  · replace c1 := bI_f c1
    first | (simp [hc, hn] at c1; done) | (simp at c1; omega) | (exact absurd c1 (by omega))
  · replace c1 := bI_t c1
    refine lv_iload_n hx hb d_M_bill_7 rfl (lv_at hl 2 rfl) ?_
    refine rdS (As := [.int y]) (rest := []) ⟨hx, hb, hml, hown, htb⟩ (c_M_isNumber l D (wA ad kd g z v) (tA kd) y) (va_cwS 1 htb (gS tb_good mw_291 mw_292 mw_27 mw_293) rfl rfl rfl (by decide +kernel) ⟨Nat.le_of_ble_eq_true rfl, Nat.le_of_ble_eq_true rfl⟩) hP hK rfl hl.1 rfl (lv_room (Nat.le_of_ble_eq_true rfl)) d_M_bill_8 ⟨Nat.zero_le _, Nat.zero_le _⟩ ?_
    refine lv_if_ne (tgt := 24) hx hb d_M_bill_11 (by decide) (fun c2 => ?_) (fun c2 => ?_)
    · replace c2 := bI_t c2
      refine lv_aload_n hx hb d_M_bill_24 rfl (lv_at hl 0 rfl) ?_
      refine va_get (D := D) (ci := 0) (v := .ref (ad 1)) (C := R_M) (T := F_M) (N := 5) hx hb htb iw_M hown hK hP 0 rfl rfl 0 (by decide) (htb _ mw_161) (fun _ h9 => h9) rfl d_M_bill_25 ?_
      refine rdV (As := []) (rest := []) (b := ad 1) ⟨hx, hb, hml, hown, htb⟩ (c_B_isFull l D ad kd g z v nb hnb hb6) (cwV (C := R_B) 0 htb (gV tb_good mw_364 mw_365 mw_366 mw_28 mw_367) rfl rfl rfl (by decide +kernel) ⟨Nat.le_of_ble_eq_true rfl, Nat.le_of_ble_eq_true rfl⟩) hP hK (va_recv hK hP (ci := 1) (q0 := 1) rfl rfl) rfl hl.1 rfl (lv_room (Nat.le_of_ble_eq_true rfl)) d_M_bill_28 ⟨Nat.zero_le _, Nat.zero_le _⟩ ?_
      refine lv_if_eq (tgt := 44) hx hb d_M_bill_31 (by decide) (fun c3 => ?_) (fun c3 => ?_)
      · replace c3 := bI_f c3
        refine lv_aload_n hx hb d_M_bill_44 rfl (lv_at hl 0 rfl) ?_
        refine va_get (D := D) (ci := 0) (v := .ref (ad 1)) (C := R_M) (T := F_M) (N := 5) hx hb htb iw_M hown hK hP 0 rfl rfl 0 (by decide) (htb _ mw_161) (fun _ h9 => h9) rfl d_M_bill_45 ?_
        refine lv_iload_n hx hb d_M_bill_48 rfl (lv_at hl 1 rfl) ?_
        refine lv_iload_n hx hb d_M_bill_49 rfl (lv_at hl 3 rfl) ?_
        refine rdV (As := [.int x, .int o]) (rest := []) (b := ad 1) ⟨hx, hb, hml, hown, htb⟩ (c_B_mayStandUnder l D ad kd g z v nb hnb hb6 x o) (cwV (C := R_B) 2 htb (gV tb_good mw_384 mw_385 mw_386 mw_28 mw_387) rfl rfl rfl (by decide +kernel) ⟨Nat.le_of_ble_eq_true rfl, Nat.le_of_ble_eq_true rfl⟩) hP hK (va_recv hK hP (ci := 1) (q0 := 1) rfl rfl) rfl hl.1 rfl (lv_room (Nat.le_of_ble_eq_true rfl)) d_M_bill_50 ⟨Nat.zero_le _, Nat.zero_le _⟩ ?_
        refine lv_if_eq (tgt := 68) hx hb d_M_bill_53 (by decide) (fun c4 => ?_) (fun c4 => ?_)
        · replace c4 := bI_f c4
          refine lv_iconst (v := (-1)) hx hb d_M_bill_68 (by decide) ?_
          exact hret _ _ _ _ _ (by simp [bilR, c1, c2, c3, c4]) (by rw [show bilR g nb x y o = false by simp [bilR, c1, c2, c3, c4]]; exact hP) hS d_M_bill_69
        · replace c4 := bI_t c4
          refine lv_aload_n hx hb d_M_bill_56 rfl (lv_at hl 0 rfl) ?_
          refine va_get (D := D) (ci := 0) (v := .ref (ad 1)) (C := R_M) (T := F_M) (N := 5) hx hb htb iw_M hown hK hP 0 rfl rfl 0 (by decide) (htb _ mw_161) (fun _ h9 => h9) rfl d_M_bill_57 ?_
          refine lv_iload_n hx hb d_M_bill_60 rfl (lv_at hl 1 rfl) ?_
          refine lv_iload_n hx hb d_M_bill_61 rfl (lv_at hl 2 rfl) ?_
          refine rdV (As := [.int x, .int y]) (rest := []) (b := ad 1) ⟨hx, hb, hml, hown, htb⟩ (c_B_isTaken l D ad kd g z v nb hnb hb6 x y) (cwV (C := R_B) 2 htb (gV tb_good mw_393 mw_394 mw_395 mw_28 mw_396) rfl rfl rfl (by decide +kernel) ⟨Nat.le_of_ble_eq_true rfl, Nat.le_of_ble_eq_true rfl⟩) hP hK (va_recv hK hP (ci := 1) (q0 := 1) rfl rfl) rfl hl.1 rfl (lv_room (Nat.le_of_ble_eq_true rfl)) d_M_bill_62 ⟨Nat.zero_le _, Nat.zero_le _⟩ ?_
          refine lv_if_eq (tgt := 70) hx hb d_M_bill_65 (by decide) (fun c5 => ?_) (fun c5 => ?_)
          · replace c5 := bI_f c5
            refine lv_aload_n hx hb d_M_bill_70 rfl (lv_at hl 0 rfl) ?_
            refine va_get (D := D) (ci := 0) (v := .ref (ad 1)) (C := R_M) (T := F_M) (N := 5) hx hb htb iw_M hown hK hP 0 rfl rfl 0 (by decide) (htb _ mw_161) (fun _ h9 => h9) rfl d_M_bill_71 ?_
            refine lv_iload_n hx hb d_M_bill_74 rfl (lv_at hl 1 rfl) ?_
            refine lv_iload_n hx hb d_M_bill_75 rfl (lv_at hl 2 rfl) ?_
            refine lv_iload_n hx hb d_M_bill_76 rfl (lv_at hl 3 rfl) ?_
            refine lv_iconst (v := 0) hx hb d_M_bill_77 (by decide) ?_
            refine wrV (As := [.int x, .int y, .int o, .int 0]) (rest := []) (b := ad 1) ⟨hx, hb, hml, hown, htb⟩ (c_B_add l D ad kd g z v nb hnb hb6 (by omega) x y o 0) (cwV (C := R_B) 4 htb (gV tb_good mw_397 mw_398 mw_399 mw_28 mw_400) rfl rfl rfl (by decide +kernel) ⟨Nat.le_of_ble_eq_true rfl, Nat.le_of_ble_eq_true rfl⟩) hP hK hD hS hA (va_recv hK hP (ci := 1) (q0 := 1) rfl rfl) rfl hl.1 rfl (lv_room (Nat.le_of_ble_eq_true rfl)) d_M_bill_78 ⟨Nat.zero_le _, Nat.zero_le _⟩ (fun H locs hP hS => ?_)
            have hP : va_P D classes (wA ad kd (addB g nb x y o 0) z (upd v 2 (nI nb + 1))) H := hP
            have hD : va_D A (wA ad kd (addB g nb x y o 0) z (upd v 2 (nI nb + 1))) := wA_D hD
            exact hret _ _ _ _ _ (by simp [bilR, c1, c2, c3, c4, c5]) (by rw [show bilR g nb x y o = true by simp [bilR, c1, c2, c3, c4, c5]]; exact hP) hS d_M_bill_81
          · replace c5 := bI_t c5
            refine lv_iconst (v := (-1)) hx hb d_M_bill_68 (by decide) ?_
            exact hret _ _ _ _ _ (by simp [bilR, c1, c2, c3, c4, c5]) (by rw [show bilR g nb x y o = false by simp [bilR, c1, c2, c3, c4, c5]]; exact hP) hS d_M_bill_69
      · replace c3 := bI_t c3
        first | (simp [hc, hn] at c3; done) | (simp [hc, hn] at c2; done) | (simp [hc, hn] at c1; done) | (simp at c3; omega) | (exact absurd c3 (by omega)) | (simp at c2; omega) | (exact absurd c2 (by omega)) | (simp at c1; omega) | (exact absurd c1 (by omega))
    · replace c2 := bI_f c2
      first | (simp [hc, hn] at c2; done) | (simp [hc, hn] at c1; done) | (simp at c2; omega) | (exact absurd c2 (by omega)) | (simp at c1; omega) | (exact absurd c1 (by omega))
set_option maxHeartbeats 4000000 in
set_option maxRecDepth 100000 in
theorem c_M_line (l : Launch) (D : va_G) (ad : Nat → Nat) (kd : Nat → ClassId) (g : Nat → Nat → Int32) (z : Nat → Int64) (v : Nat → Int32) (nb : Nat) (hnb : v 2 = nI nb) (hb6 : nb ≤ 60) (nl : Nat) (hnl : v 3 = nI nl) (hl2 : nl ≤ 200) (hlt : nl < 200) (k : Nat) (hk : k < nb) (x y : Int32) (hw : isWtS x = true) (hy1 : ¬ y < 0) (hy2 : y ≤ 10000) : WRi l y_M_line (.code y_M_line b_M_line 4 (some .int) :: TB) ({ frames := 1, cells := 0, slots := 0, locals := 23 } : Room) [.ref (ad 0), .int (nI k), .int x, .int y] D classes (wA ad kd g z v) (wA ad kd (addN g nl k x y) z (upd v 3 (nI nl + 1))) (tA kd) (g 12 k) := by
  refine wr_of (by decide +kernel) (rfl) (Nat.le_of_ble_eq_true rfl) ?_
  intro p e s m args below meth c Q ls A hx hb hml htb hown hP hK hD hS hA hl hret
  have hl : lv_has ls 4 [(0, .ref (ad 0)), (1, .int (nI k)), (2, .int x), (3, .int y)] := hl
  have hin : inN nb (nI k) = true := inN_nI hk (by omega)
  have hc := hin
  refine lv_aload_n hx hb d_M_line_0 rfl (lv_at hl 0 rfl) ?_
  refine va_get (D := D) (ci := 0) (v := .ref (ad 1)) (C := R_M) (T := F_M) (N := 5) hx hb htb iw_M hown hK hP 0 rfl rfl 0 (by decide) (htb _ mw_161) (fun _ h9 => h9) rfl d_M_line_1 ?_
  refine lv_iload_n hx hb d_M_line_4 rfl (lv_at hl 1 rfl) ?_
  refine rdV (As := [.int (nI k)]) (rest := []) (b := ad 1) ⟨hx, hb, hml, hown, htb⟩ (c_B_has l D ad kd g z v nb hnb hb6 (nI k)) (cwV (C := R_B) 1 htb (gV tb_good mw_185 mw_186 mw_187 mw_28 mw_188) rfl rfl rfl (by decide +kernel) ⟨Nat.le_of_ble_eq_true rfl, Nat.le_of_ble_eq_true rfl⟩) hP hK (va_recv hK hP (ci := 1) (q0 := 1) rfl rfl) rfl hl.1 rfl (lv_room (Nat.le_of_ble_eq_true rfl)) d_M_line_5 ⟨Nat.zero_le _, Nat.zero_le _⟩ ?_
  refine lv_if_eq (tgt := 29) hx hb d_M_line_8 (by decide) (fun c1 => ?_) (fun c1 => ?_)
  · replace c1 := bI_f c1
    first | (simp [hc, hw, hin, hy1, hy2] at c1; done) | (simp at c1; omega) | (exact absurd c1 (by omega))
  · replace c1 := bI_t c1
    refine lv_iload_n hx hb d_M_line_11 rfl (lv_at hl 2 rfl) ?_
    refine rdS (As := [.int x]) (rest := []) ⟨hx, hb, hml, hown, htb⟩ (c_M_isWeight l D (wA ad kd g z v) (tA kd) x) (va_cwS 1 htb (gS tb_good mw_219 mw_220 mw_27 mw_221) rfl rfl rfl (by decide +kernel) ⟨Nat.le_of_ble_eq_true rfl, Nat.le_of_ble_eq_true rfl⟩) hP hK rfl hl.1 rfl (lv_room (Nat.le_of_ble_eq_true rfl)) d_M_line_12 ⟨Nat.zero_le _, Nat.zero_le _⟩ ?_
    refine lv_if_eq (tgt := 29) hx hb d_M_line_15 (by decide) (fun c2 => ?_) (fun c2 => ?_)
    · replace c2 := bI_f c2
      first | (simp [hc, hw, hin, hy1, hy2] at c2; done) | (simp [hc, hw, hin, hy1, hy2] at c1; done) | (simp at c2; omega) | (exact absurd c2 (by omega)) | (simp at c1; omega) | (exact absurd c1 (by omega))
    · replace c2 := bI_t c2
      refine lv_iload_n hx hb d_M_line_18 rfl (lv_at hl 3 rfl) ?_
      refine lv_if_lt (tgt := 29) hx hb d_M_line_19 (by decide) (fun c3 => ?_) (fun c3 => ?_)
      · first | (simp [hc, hw, hin, hy1, hy2] at c3; done) | (simp [hc, hw, hin, hy1, hy2] at c2; done) | (simp [hc, hw, hin, hy1, hy2] at c1; done) | (simp at c3; omega) | (exact absurd c3 (by omega)) | (simp at c2; omega) | (exact absurd c2 (by omega)) | (simp at c1; omega) | (exact absurd c1 (by omega))
      · refine lv_iload_n hx hb d_M_line_22 rfl (lv_at hl 3 rfl) ?_
        refine lv_sipush (v := 10000) hx hb d_M_line_23 (by decide) ?_
        refine lv_icmp_le (tgt := 39) hx hb d_M_line_26 (by decide) (fun c4 => ?_) (fun c4 => ?_)
        · refine lv_aload_n hx hb d_M_line_39 rfl (lv_at hl 0 rfl) ?_
          refine va_get (D := D) (ci := 0) (v := .ref (ad 9)) (C := R_M) (T := F_M) (N := 5) hx hb htb iw_M hown hK hP 0 rfl rfl 1 (by decide) (htb _ mw_162) (fun _ h9 => h9) rfl d_M_line_40 ?_
          refine rdV (As := []) (rest := []) (b := ad 9) ⟨hx, hb, hml, hown, htb⟩ (c_N_isFull l D ad kd g z v nl hnl hl2) (cwV (C := R_N) 0 htb (gV tb_good mw_409 mw_410 mw_411 mw_29 mw_412) rfl rfl rfl (by decide +kernel) ⟨Nat.le_of_ble_eq_true rfl, Nat.le_of_ble_eq_true rfl⟩) hP hK (va_recv hK hP (ci := 2) (q0 := 9) rfl rfl) rfl hl.1 rfl (lv_room (Nat.le_of_ble_eq_true rfl)) d_M_line_43 ⟨Nat.zero_le _, Nat.zero_le _⟩ ?_
          refine lv_if_eq (tgt := 59) hx hb d_M_line_46 (by decide) (fun c5 => ?_) (fun c5 => ?_)
          · replace c5 := bI_f c5
            refine lv_aload_n hx hb d_M_line_59 rfl (lv_at hl 0 rfl) ?_
            refine va_get (D := D) (ci := 0) (v := .ref (ad 9)) (C := R_M) (T := F_M) (N := 5) hx hb htb iw_M hown hK hP 0 rfl rfl 1 (by decide) (htb _ mw_162) (fun _ h9 => h9) rfl d_M_line_60 ?_
            refine lv_iload_n hx hb d_M_line_63 rfl (lv_at hl 1 rfl) ?_
            refine lv_iload_n hx hb d_M_line_64 rfl (lv_at hl 2 rfl) ?_
            refine lv_iload_n hx hb d_M_line_65 rfl (lv_at hl 3 rfl) ?_
            refine wrV (As := [.int (nI k), .int x, .int y]) (rest := []) (b := ad 9) ⟨hx, hb, hml, hown, htb⟩ (c_N_add l D ad kd g z v nl hnl hl2 (by omega) k (by omega) x y) (cwV (C := R_N) 3 htb (gV tb_good mw_414 mw_415 mw_416 mw_29 mw_417) rfl rfl rfl (by decide +kernel) ⟨Nat.le_of_ble_eq_true rfl, Nat.le_of_ble_eq_true rfl⟩) hP hK hD hS hA (va_recv hK hP (ci := 2) (q0 := 9) rfl rfl) rfl hl.1 rfl (lv_room (Nat.le_of_ble_eq_true rfl)) d_M_line_66 ⟨Nat.zero_le _, Nat.zero_le _⟩ (fun H locs hP hS => ?_)
            have hP : va_P D classes (wA ad kd (addN g nl k x y) z (upd v 3 (nI nl + 1))) H := hP
            have hD : va_D A (wA ad kd (addN g nl k x y) z (upd v 3 (nI nl + 1))) := wA_D hD
            exact hret _ _ _ _ _ rfl hP hS d_M_line_69
          · replace c5 := bI_t c5
            first | (simp [hc, hw, hin, hy1, hy2] at c5; done) | (simp [hc, hw, hin, hy1, hy2] at c4; done) | (simp [hc, hw, hin, hy1, hy2] at c3; done) | (simp [hc, hw, hin, hy1, hy2] at c2; done) | (simp [hc, hw, hin, hy1, hy2] at c1; done) | (simp at c5; omega) | (exact absurd c5 (by omega)) | (simp at c4; omega) | (exact absurd c4 (by omega)) | (simp at c3; omega) | (exact absurd c3 (by omega)) | (simp at c2; omega) | (exact absurd c2 (by omega)) | (simp at c1; omega) | (exact absurd c1 (by omega))
        · first | (simp [hc, hw, hin, hy1, hy2] at c4; done) | (simp [hc, hw, hin, hy1, hy2] at c3; done) | (simp [hc, hw, hin, hy1, hy2] at c2; done) | (simp [hc, hw, hin, hy1, hy2] at c1; done) | (simp at c4; omega) | (exact absurd c4 (by omega)) | (simp at c3; omega) | (exact absurd c3 (by omega)) | (simp at c2; omega) | (exact absurd c2 (by omega)) | (simp at c1; omega) | (exact absurd c1 (by omega))
set_option maxHeartbeats 4000000 in
set_option maxRecDepth 100000 in
theorem c_M_box (l : Launch) (D : va_G) (ad : Nat → Nat) (kd : Nat → ClassId) (g : Nat → Nat → Int32) (z : Nat → Int64) (v : Nat → Int32) (nx : Nat) (hnx : v 4 = nI nx) (hx6 : nx ≤ 60) (hlt : nx < 60) (x y o : Int32) (hc : isCallS x = true) (hn : isNumS y = true) (hw : isWtS o = true) : WRi l y_M_box (.code y_M_box b_M_box 4 (some .int) :: TB) ({ frames := 1, cells := 0, slots := 0, locals := 24 } : Room) [.ref (ad 0), .int x, .int y, .int o] D classes (wA ad kd g z v) (wA ad kd (if takX g nx x y = true then g else addX g nx x y o) (if takX g nx x y = true then z else vp_updL z nx 0) (if takX g nx x y = true then v else upd v 4 (nI nx + 1))) (tA kd) (if takX g nx x y = true then -1 else nI nx) := by
  refine wr_of (by decide +kernel) (rfl) (Nat.le_of_ble_eq_true rfl) ?_
  intro p e s m args below meth c Q ls A hx hb hml htb hown hP hK hD hS hA hl hret
  have hl : lv_has ls 4 [(0, .ref (ad 0)), (1, .int x), (2, .int y), (3, .int o)] := hl
  refine lv_iload_n hx hb d_M_box_0 rfl (lv_at hl 1 rfl) ?_
  refine rdS (As := [.int x]) (rest := []) ⟨hx, hb, hml, hown, htb⟩ (c_M_isCall l D (wA ad kd g z v) (tA kd) x) (va_cwS 1 htb (gS tb_good mw_227 mw_228 mw_27 mw_229) rfl rfl rfl (by decide +kernel) ⟨Nat.le_of_ble_eq_true rfl, Nat.le_of_ble_eq_true rfl⟩) hP hK rfl hl.1 rfl (lv_room (Nat.le_of_ble_eq_true rfl)) d_M_box_1 ⟨Nat.zero_le _, Nat.zero_le _⟩ ?_
  refine lv_if_eq (tgt := 21) hx hb d_M_box_4 (by decide) (fun c1 => ?_) (fun c1 => ?_)
  · replace c1 := bI_f c1
    first | (simp [hc, hn, hw] at c1; done) | (simp at c1; omega) | (exact absurd c1 (by omega))
  · replace c1 := bI_t c1
    refine lv_iload_n hx hb d_M_box_7 rfl (lv_at hl 2 rfl) ?_
    refine rdS (As := [.int y]) (rest := []) ⟨hx, hb, hml, hown, htb⟩ (c_M_isNumber l D (wA ad kd g z v) (tA kd) y) (va_cwS 1 htb (gS tb_good mw_291 mw_292 mw_27 mw_293) rfl rfl rfl (by decide +kernel) ⟨Nat.le_of_ble_eq_true rfl, Nat.le_of_ble_eq_true rfl⟩) hP hK rfl hl.1 rfl (lv_room (Nat.le_of_ble_eq_true rfl)) d_M_box_8 ⟨Nat.zero_le _, Nat.zero_le _⟩ ?_
    refine lv_if_eq (tgt := 21) hx hb d_M_box_11 (by decide) (fun c2 => ?_) (fun c2 => ?_)
    · replace c2 := bI_f c2
      first | (simp [hc, hn, hw] at c2; done) | (simp [hc, hn, hw] at c1; done) | (simp at c2; omega) | (exact absurd c2 (by omega)) | (simp at c1; omega) | (exact absurd c1 (by omega))
    · replace c2 := bI_t c2
      refine lv_iload_n hx hb d_M_box_14 rfl (lv_at hl 3 rfl) ?_
      refine rdS (As := [.int o]) (rest := []) ⟨hx, hb, hml, hown, htb⟩ (c_M_isWeight l D (wA ad kd g z v) (tA kd) o) (va_cwS 1 htb (gS tb_good mw_219 mw_220 mw_27 mw_221) rfl rfl rfl (by decide +kernel) ⟨Nat.le_of_ble_eq_true rfl, Nat.le_of_ble_eq_true rfl⟩) hP hK rfl hl.1 rfl (lv_room (Nat.le_of_ble_eq_true rfl)) d_M_box_15 ⟨Nat.zero_le _, Nat.zero_le _⟩ ?_
      refine lv_if_ne (tgt := 31) hx hb d_M_box_18 (by decide) (fun c3 => ?_) (fun c3 => ?_)
      · replace c3 := bI_t c3
        refine lv_aload_n hx hb d_M_box_31 rfl (lv_at hl 0 rfl) ?_
        refine va_get (D := D) (ci := 0) (v := .ref (ad 15)) (C := R_M) (T := F_M) (N := 5) hx hb htb iw_M hown hK hP 0 rfl rfl 2 (by decide) (htb _ mw_163) (fun _ h9 => h9) rfl d_M_box_32 ?_
        refine rdV (As := []) (rest := []) (b := ad 15) ⟨hx, hb, hml, hown, htb⟩ (c_X_isFull l D ad kd g z v nx hnx hx6) (cwV (C := R_X) 0 htb (gV tb_good mw_426 mw_427 mw_428 mw_30 mw_429) rfl rfl rfl (by decide +kernel) ⟨Nat.le_of_ble_eq_true rfl, Nat.le_of_ble_eq_true rfl⟩) hP hK (va_recv hK hP (ci := 3) (q0 := 15) rfl rfl) rfl hl.1 rfl (lv_room (Nat.le_of_ble_eq_true rfl)) d_M_box_35 ⟨Nat.zero_le _, Nat.zero_le _⟩ ?_
        refine lv_if_eq (tgt := 51) hx hb d_M_box_38 (by decide) (fun c4 => ?_) (fun c4 => ?_)
        · replace c4 := bI_f c4
          refine lv_aload_n hx hb d_M_box_51 rfl (lv_at hl 0 rfl) ?_
          refine va_get (D := D) (ci := 0) (v := .ref (ad 15)) (C := R_M) (T := F_M) (N := 5) hx hb htb iw_M hown hK hP 0 rfl rfl 2 (by decide) (htb _ mw_163) (fun _ h9 => h9) rfl d_M_box_52 ?_
          refine lv_iload_n hx hb d_M_box_55 rfl (lv_at hl 1 rfl) ?_
          refine lv_iload_n hx hb d_M_box_56 rfl (lv_at hl 2 rfl) ?_
          refine rdV (As := [.int x, .int y]) (rest := []) (b := ad 15) ⟨hx, hb, hml, hown, htb⟩ (c_X_isTaken l D ad kd g z v nx hnx hx6 x y) (cwV (C := R_X) 2 htb (gV tb_good mw_431 mw_432 mw_433 mw_30 mw_434) rfl rfl rfl (by decide +kernel) ⟨Nat.le_of_ble_eq_true rfl, Nat.le_of_ble_eq_true rfl⟩) hP hK (va_recv hK hP (ci := 3) (q0 := 15) rfl rfl) rfl hl.1 rfl (lv_room (Nat.le_of_ble_eq_true rfl)) d_M_box_57 ⟨Nat.zero_le _, Nat.zero_le _⟩ ?_
          refine lv_if_eq (tgt := 65) hx hb d_M_box_60 (by decide) (fun c5 => ?_) (fun c5 => ?_)
          · replace c5 := bI_f c5
            refine lv_aload_n hx hb d_M_box_65 rfl (lv_at hl 0 rfl) ?_
            refine va_get (D := D) (ci := 0) (v := .ref (ad 15)) (C := R_M) (T := F_M) (N := 5) hx hb htb iw_M hown hK hP 0 rfl rfl 2 (by decide) (htb _ mw_163) (fun _ h9 => h9) rfl d_M_box_66 ?_
            refine lv_iload_n hx hb d_M_box_69 rfl (lv_at hl 1 rfl) ?_
            refine lv_iload_n hx hb d_M_box_70 rfl (lv_at hl 2 rfl) ?_
            refine lv_iload_n hx hb d_M_box_71 rfl (lv_at hl 3 rfl) ?_
            refine wrV (As := [.int x, .int y, .int o]) (rest := []) (b := ad 15) ⟨hx, hb, hml, hown, htb⟩ (c_X_add l D ad kd g z v nx hnx hx6 (by omega) x y o) (cwV (C := R_X) 3 htb (gV tb_good mw_435 mw_436 mw_437 mw_30 mw_438) rfl rfl rfl (by decide +kernel) ⟨Nat.le_of_ble_eq_true rfl, Nat.le_of_ble_eq_true rfl⟩) hP hK hD hS hA (va_recv hK hP (ci := 3) (q0 := 15) rfl rfl) rfl hl.1 rfl (lv_room (Nat.le_of_ble_eq_true rfl)) d_M_box_72 ⟨Nat.zero_le _, Nat.zero_le _⟩ (fun H locs hP hS => ?_)
            have hP : va_P D classes (wA ad kd (addX g nx x y o) (vp_updL z nx 0) (upd v 4 (nI nx + 1))) H := hP
            have hD : va_D A (wA ad kd (addX g nx x y o) (vp_updL z nx 0) (upd v 4 (nI nx + 1))) := wA_D hD
            exact hret _ _ _ _ _ (by simp [c1, c2, c3, c4, c5]) (by simp only [c5, if_true, Bool.false_eq_true, if_false]; exact hP) hS d_M_box_75
          · replace c5 := bI_t c5
            refine lv_iconst (v := (-1)) hx hb d_M_box_63 (by decide) ?_
            exact hret _ _ _ _ _ (by simp [c1, c2, c3, c4, c5]) (by simp only [c5, if_true, Bool.false_eq_true, if_false]; exact hP) hS d_M_box_64
        · replace c4 := bI_t c4
          first | (simp [hc, hn, hw] at c4; done) | (simp [hc, hn, hw] at c3; done) | (simp [hc, hn, hw] at c2; done) | (simp [hc, hn, hw] at c1; done) | (simp at c4; omega) | (exact absurd c4 (by omega)) | (simp at c3; omega) | (exact absurd c3 (by omega)) | (simp at c2; omega) | (exact absurd c2 (by omega)) | (simp at c1; omega) | (exact absurd c1 (by omega))
      · replace c3 := bI_f c3
        first | (simp [hc, hn, hw] at c3; done) | (simp [hc, hn, hw] at c2; done) | (simp [hc, hn, hw] at c1; done) | (simp at c3; omega) | (exact absurd c3 (by omega)) | (simp at c2; omega) | (exact absurd c2 (by omega)) | (simp at c1; omega) | (exact absurd c1 (by omega))
set_option maxHeartbeats 4000000 in
set_option maxRecDepth 100000 in
theorem c_M_amend (l : Launch) (D : va_G) (ad : Nat → Nat) (kd : Nat → ClassId) (g : Nat → Nat → Int32) (z : Nat → Int64) (v : Nat → Int32) (nb : Nat) (hnb : v 2 = nI nb) (hb6 : nb ≤ 60) (nl : Nat) (hnl : v 3 = nI nl) (hl2 : nl ≤ 200) (k : Nat) (hk : k < nb) (ln w : Int32) (hw : isWtS w = true) (i : Nat) (hi : i < nl) (hrow : rowN g nl (nI k) ln = nI i) (hgi : g 10 i = nI k) : WRi l y_M_amend (.code y_M_amend b_M_amend 7 (some .int) :: TB) ({ frames := 1, cells := 0, slots := 0, locals := 24 } : Room) [.ref (ad 0), .int (nI k), .int ln, .int w] D classes (wA ad kd g z v) (wA ad kd (chgN g i w k) z (amdV g v i k w)) (tA kd) (amdR g v i k w) := by
  refine wr_of (by decide +kernel) (rfl) (Nat.le_of_ble_eq_true rfl) ?_
  intro p e s m args below meth c Q ls A hx hb hml htb hown hP hK hD hS hA hl hret
  have hl : lv_has ls 7 [(0, .ref (ad 0)), (1, .int (nI k)), (2, .int ln), (3, .int w)] := hl
  have hin : inN nb (nI k) = true := inN_nI hk (by omega)
  have hni : ¬ nI i = -1 := nI_nm1 (by omega)
  refine lv_aload_n hx hb d_M_amend_0 rfl (lv_at hl 0 rfl) ?_
  refine va_get (D := D) (ci := 0) (v := .ref (ad 1)) (C := R_M) (T := F_M) (N := 5) hx hb htb iw_M hown hK hP 0 rfl rfl 0 (by decide) (htb _ mw_161) (fun _ h9 => h9) rfl d_M_amend_1 ?_
  refine lv_iload_n hx hb d_M_amend_4 rfl (lv_at hl 1 rfl) ?_
  refine rdV (As := [.int (nI k)]) (rest := []) (b := ad 1) ⟨hx, hb, hml, hown, htb⟩ (c_B_has l D ad kd g z v nb hnb hb6 (nI k)) (cwV (C := R_B) 1 htb (gV tb_good mw_185 mw_186 mw_187 mw_28 mw_188) rfl rfl rfl (by decide +kernel) ⟨Nat.le_of_ble_eq_true rfl, Nat.le_of_ble_eq_true rfl⟩) hP hK (va_recv hK hP (ci := 1) (q0 := 1) rfl rfl) rfl hl.1 rfl (lv_room (Nat.le_of_ble_eq_true rfl)) d_M_amend_5 ⟨Nat.zero_le _, Nat.zero_le _⟩ ?_
  refine lv_if_eq (tgt := 23) hx hb d_M_amend_8 (by decide) (fun c1 => ?_) (fun c1 => ?_)
  · replace c1 := bI_f c1
    refine lv_iconst (v := (-1)) hx hb d_M_amend_23 (by decide) ?_
    refine lv_istore (lv' := [(4, .int (-1)), (0, .ref (ad 0)), (1, .int (nI k)), (2, .int ln), (3, .int w)]) hx hb d_M_amend_24 hl (by decide) rfl (fun ls hl => ?_)
    refine lv_iload hx hb d_M_amend_26 (lv_at hl 0 rfl) ?_
    refine lv_iconst (v := (-1)) hx hb d_M_amend_28 (by decide) ?_
    refine lv_icmp_eq (tgt := 39) hx hb d_M_amend_29 (by decide) (fun c2 => ?_) (fun c2 => ?_)
    · first | (simp [hw, hin, hni] at c2; done) | (simp [hw, hin, hni] at c1; done) | (simp at c2; omega) | (exact absurd c2 (by omega)) | (simp at c1; omega) | (exact absurd c1 (by omega))
    · exact absurd c2 (by decide)
  · replace c1 := bI_t c1
    refine lv_aload_n hx hb d_M_amend_11 rfl (lv_at hl 0 rfl) ?_
    refine va_get (D := D) (ci := 0) (v := .ref (ad 9)) (C := R_M) (T := F_M) (N := 5) hx hb htb iw_M hown hK hP 0 rfl rfl 1 (by decide) (htb _ mw_162) (fun _ h9 => h9) rfl d_M_amend_12 ?_
    refine lv_iload_n hx hb d_M_amend_15 rfl (lv_at hl 1 rfl) ?_
    refine lv_iload_n hx hb d_M_amend_16 rfl (lv_at hl 2 rfl) ?_
    refine rdV (As := [.int (nI k), .int ln]) (rest := []) (b := ad 9) ⟨hx, hb, hml, hown, htb⟩ (c_N_rowOf l D ad kd g z v nl hnl hl2 (nI k) ln) (cwV (C := R_N) 2 htb (gV tb_good mw_446 mw_447 mw_448 mw_29 mw_449) rfl rfl rfl (by decide +kernel) ⟨Nat.le_of_ble_eq_true rfl, Nat.le_of_ble_eq_true rfl⟩) hP hK (va_recv hK hP (ci := 2) (q0 := 9) rfl rfl) rfl hl.1 rfl (lv_room (Nat.le_of_ble_eq_true rfl)) d_M_amend_17 ⟨Nat.zero_le _, Nat.zero_le _⟩ ?_
    refine W.eq (congrArg (fun z => F0 m 20 ls (.int z :: [])) (show (rowN g nl (nI k) ln) = (nI i) from hrow)) ?_
    refine lv_goto (tgt := 24) hx hb d_M_amend_20 (by decide) ?_
    refine lv_istore (lv' := [(4, .int (nI i)), (0, .ref (ad 0)), (1, .int (nI k)), (2, .int ln), (3, .int w)]) hx hb d_M_amend_24 hl (by decide) rfl (fun ls hl => ?_)
    refine lv_iload hx hb d_M_amend_26 (lv_at hl 0 rfl) ?_
    refine lv_iconst (v := (-1)) hx hb d_M_amend_28 (by decide) ?_
    refine lv_icmp_eq (tgt := 39) hx hb d_M_amend_29 (by decide) (fun c3 => ?_) (fun c3 => ?_)
    · first | (simp [hw, hin, hni] at c3; done) | (simp [hw, hin, hni] at c1; done) | (simp at c3; omega) | (exact absurd c3 (by omega)) | (simp at c1; omega) | (exact absurd c1 (by omega))
    · refine lv_iload_n hx hb d_M_amend_32 rfl (lv_at hl 4 rfl) ?_
      refine rdS (As := [.int w]) (rest := []) ⟨hx, hb, hml, hown, htb⟩ (c_M_isWeight l D (wA ad kd g z v) (tA kd) w) (va_cwS 1 htb (gS tb_good mw_219 mw_220 mw_27 mw_221) rfl rfl rfl (by decide +kernel) ⟨Nat.le_of_ble_eq_true rfl, Nat.le_of_ble_eq_true rfl⟩) hP hK rfl hl.1 rfl (lv_room (Nat.le_of_ble_eq_true rfl)) d_M_amend_33 ⟨Nat.zero_le _, Nat.zero_le _⟩ ?_
      refine lv_if_ne (tgt := 49) hx hb d_M_amend_36 (by decide) (fun c4 => ?_) (fun c4 => ?_)
      · replace c4 := bI_t c4
        refine lv_aload_n hx hb d_M_amend_49 rfl (lv_at hl 1 rfl) ?_
        refine va_get (D := D) (ci := 0) (v := .ref (ad 9)) (C := R_M) (T := F_M) (N := 5) hx hb htb iw_M hown hK hP 0 rfl rfl 1 (by decide) (htb _ mw_162) (fun _ h9 => h9) rfl d_M_amend_50 ?_
        refine lv_iload hx hb d_M_amend_53 (lv_at hl 0 rfl) ?_
        refine lv_iload_n hx hb d_M_amend_55 rfl (lv_at hl 4 rfl) ?_
        refine wrV (As := [.int (nI i), .int w]) (rest := []) (b := ad 9) ⟨hx, hb, hml, hown, htb⟩ (c_N_changeWeight l D ad kd g z v i (by omega) w k (by omega) hgi) (cwV (C := R_N) 2 htb (gV tb_good mw_451 mw_452 mw_453 mw_29 mw_454) rfl rfl rfl (by decide +kernel) ⟨Nat.le_of_ble_eq_true rfl, Nat.le_of_ble_eq_true rfl⟩) hP hK hD hS hA (va_recv hK hP (ci := 2) (q0 := 9) rfl rfl) rfl hl.1 rfl (lv_room (Nat.le_of_ble_eq_true rfl)) d_M_amend_56 ⟨Nat.zero_le _, Nat.zero_le _⟩ (fun H locs hP hS => ?_)
        have hP : va_P D classes (wA ad kd (chgN g i w k) z v) H := hP
        have hD : va_D A (wA ad kd (chgN g i w k) z v) := wA_D hD
        refine lv_istore (lv' := [(5, .int (w - g 11 i)), (4, .int (nI i)), (0, .ref (ad 0)), (1, .int (nI k)), (2, .int ln), (3, .int w)]) hx hb d_M_amend_59 hl (by decide) rfl (fun ls hl => ?_)
        refine lv_iload hx hb d_M_amend_61 (lv_at hl 0 rfl) ?_
        refine lv_if_eq (tgt := 82) hx hb d_M_amend_63 (by decide) (fun c5 => ?_) (fun c5 => ?_)
        · refine lv_iconst (v := 0) hx hb d_M_amend_82 (by decide) ?_
          exact hret _ _ _ _ _ (by simp [amdR, c1, c3, c4, c5]) (by rw [show amdV g v i k w = v by simp [amdV, c1, c3, c4, c5]]; exact hP) hS d_M_amend_83
        · refine lv_aload_n hx hb d_M_amend_66 rfl (lv_at hl 2 rfl) ?_
          refine lv_aload_n hx hb d_M_amend_67 rfl (lv_at hl 2 rfl) ?_
          refine va_get (D := D) (ci := 0) (v := .ref (ad 1)) (C := R_M) (T := F_M) (N := 5) hx hb htb iw_M hown hK hP 0 rfl rfl 0 (by decide) (htb _ mw_161) (fun _ h9 => h9) rfl d_M_amend_68 ?_
          refine va_get (D := D) (ci := 1) (v := .ref (ad 2)) (C := R_B) (T := F_B) (N := 8) hx hb htb iw_B hown hK hP 1 rfl rfl 1 (by decide) (htb _ mw_58) (fun _ h9 => h9) rfl d_M_amend_71 ?_
          refine lv_iload_n hx hb d_M_amend_74 rfl (lv_at hl 3 rfl) ?_
          refine q_iald hx hb hK hP 2 0 rfl rfl k (by omega) (by decide) d_M_amend_75 ?_
          refine rdV (As := [.int (g 2 k)]) (rest := []) (b := ad 0) ⟨hx, hb, hml, hown, htb⟩ (c_M_hasArrived l D ad kd (chgN g i w k) z v (g 2 k)) (cwV (C := R_M) 1 htb (gV tb_good mw_230 mw_232 mw_0 mw_27 mw_233) rfl rfl rfl (by decide +kernel) ⟨Nat.le_of_ble_eq_true rfl, Nat.le_of_ble_eq_true rfl⟩) hP hK (va_recv hK hP (ci := 0) (q0 := 0) rfl rfl) rfl hl.1 rfl (lv_room (Nat.le_of_ble_eq_true rfl)) d_M_amend_76 ⟨Nat.zero_le _, Nat.zero_le _⟩ ?_
          refine lv_if_ne (tgt := 84) hx hb d_M_amend_79 (by decide) (fun c6 => ?_) (fun c6 => ?_)
          · replace c6 := bI_t c6
            refine lv_bipush (v := 100) hx hb d_M_amend_84 (by decide) ?_
            refine lv_iload hx hb d_M_amend_86 (lv_at hl 0 rfl) ?_
            refine va_mabs hx hb (by rw [hml]; exact hl.1.symm) hown (htb _ mw_455) (htb _ mw_456) (htb _ mw_38) (htb _ mw_457) (Nat.le_of_ble_eq_true rfl) (Nat.le_of_ble_eq_true rfl) (Nat.zero_le _) (Nat.zero_le _) d_M_amend_88 ?_
            refine lv_sipush (v := 1000) hx hb d_M_amend_91 (by decide) ?_
            refine lv_idiv hx hb d_M_amend_94 (by decide) ?_
            refine lv_iadd hx hb d_M_amend_95 ?_
            refine lv_istore (lv' := [(6, .int (100 + ((if 0 ≤ (w - g 11 i) then (w - g 11 i) else 0 - (w - g 11 i)) / 1000))), (5, .int (w - g 11 i)), (4, .int (nI i)), (0, .ref (ad 0)), (1, .int (nI k)), (2, .int ln), (3, .int w)]) hx hb d_M_amend_96 hl (by decide) rfl (fun ls hl => ?_)
            refine lv_aload_n hx hb d_M_amend_98 rfl (lv_at hl 3 rfl) ?_
            refine lv_dup hx hb d_M_amend_99 rfl ?_
            refine va_get (D := D) (ci := 0) (v := .int (v 1)) (C := R_M) (T := F_M) (N := 5) hx hb htb iw_M hown hK hP 0 rfl rfl 4 (by decide) (htb _ mw_165) (fun _ h9 => h9) rfl d_M_amend_100 ?_
            refine lv_iload hx hb d_M_amend_103 (lv_at hl 0 rfl) ?_
            refine lv_iadd hx hb d_M_amend_105 ?_
            refine va_put (D := D) (ci := 0) (v := .int ((v 1) + (100 + ((if 0 ≤ (w - g 11 i) then (w - g 11 i) else 0 - (w - g 11 i)) / 1000)))) (ty := .int) (C := R_M) (T := F_M) (N := 5) hx hb htb iw_M t_M t_M_ok n_M hown hK hP hD hS 0 rfl rfl 4 (by decide) (htb _ mw_165) (fun _ h9 => h9) rfl (by decide +kernel) rfl rfl (Nat.le_of_ble_eq_true rfl) d_M_amend_106 (fun H locs hP hD hS => ?_)
            have hP : va_P D classes (wA ad kd (chgN g i w k) z (upd v 1 ((v 1) + (100 + ((if 0 ≤ (w - g 11 i) then (w - g 11 i) else 0 - (w - g 11 i)) / 1000))))) H := hP
            have hD : va_D A (wA ad kd (chgN g i w k) z (upd v 1 ((v 1) + (100 + ((if 0 ≤ (w - g 11 i) then (w - g 11 i) else 0 - (w - g 11 i)) / 1000))))) := hD
            refine lv_iload hx hb d_M_amend_109 (lv_at hl 0 rfl) ?_
            exact hret _ _ _ _ _ (by simp [amdR, c1, c3, c4, c5, c6]) (by rw [show amdV g v i k w = (upd v 1 ((v 1) + (100 + ((if 0 ≤ (w - g 11 i) then (w - g 11 i) else 0 - (w - g 11 i)) / 1000)))) by simp [amdV, c1, c3, c4, c5, c6]]; exact hP) hS d_M_amend_111
          · replace c6 := bI_f c6
            refine lv_iconst (v := 0) hx hb d_M_amend_82 (by decide) ?_
            exact hret _ _ _ _ _ (by simp [amdR, c1, c3, c4, c5, c6]) (by rw [show amdV g v i k w = v by simp [amdV, c1, c3, c4, c5, c6]]; exact hP) hS d_M_amend_83
      · replace c4 := bI_f c4
        first | (simp [hw, hin, hni] at c4; done) | (simp [hw, hin, hni] at c3; done) | (simp [hw, hin, hni] at c1; done) | (simp at c4; omega) | (exact absurd c4 (by omega)) | (simp at c3; omega) | (exact absurd c3 (by omega)) | (simp at c1; omega) | (exact absurd c1 (by omega))
set_option maxHeartbeats 4000000 in
set_option maxRecDepth 100000 in
theorem c_M_title (l : Launch) (D : va_G) (ad : Nat → Nat) (kd : Nat → ClassId) (g : Nat → Nat → Int32) (z : Nat → Int64) (v : Nat → Int32) (nb : Nat) (hnb : v 2 = nI nb) (hb6 : nb ≤ 60) (k : Nat) (hk : k < nb) (f t : Int32) (hf : isHoS f = true) (ht : isHoS t = true) (hne : ¬ f = t) : WRi l y_M_title (.code y_M_title b_M_title 4 (some .int) :: TB) ({ frames := 1, cells := 0, slots := 0, locals := 21 } : Room) [.ref (ad 0), .int (nI k), .int f, .int t] D classes (wA ad kd g z v) (wA ad kd (if titR g k f = true then up g 7 k t else g) z v) (tA kd) (bI (titR g k f)) := by
  refine wr_of (by decide +kernel) (rfl) (Nat.le_of_ble_eq_true rfl) ?_
  intro p e s m args below meth c Q ls A hx hb hml htb hown hP hK hD hS hA hl hret
  have hl : lv_has ls 4 [(0, .ref (ad 0)), (1, .int (nI k)), (2, .int f), (3, .int t)] := hl
  have hin : inN nb (nI k) = true := inN_nI hk (by omega)
  refine lv_aload_n hx hb d_M_title_0 rfl (lv_at hl 0 rfl) ?_
  refine va_get (D := D) (ci := 0) (v := .ref (ad 1)) (C := R_M) (T := F_M) (N := 5) hx hb htb iw_M hown hK hP 0 rfl rfl 0 (by decide) (htb _ mw_161) (fun _ h9 => h9) rfl d_M_title_1 ?_
  refine lv_iload_n hx hb d_M_title_4 rfl (lv_at hl 1 rfl) ?_
  refine rdV (As := [.int (nI k)]) (rest := []) (b := ad 1) ⟨hx, hb, hml, hown, htb⟩ (c_B_has l D ad kd g z v nb hnb hb6 (nI k)) (cwV (C := R_B) 1 htb (gV tb_good mw_185 mw_186 mw_187 mw_28 mw_188) rfl rfl rfl (by decide +kernel) ⟨Nat.le_of_ble_eq_true rfl, Nat.le_of_ble_eq_true rfl⟩) hP hK (va_recv hK hP (ci := 1) (q0 := 1) rfl rfl) rfl hl.1 rfl (lv_room (Nat.le_of_ble_eq_true rfl)) d_M_title_5 ⟨Nat.zero_le _, Nat.zero_le _⟩ ?_
  refine lv_if_eq (tgt := 30) hx hb d_M_title_8 (by decide) (fun c1 => ?_) (fun c1 => ?_)
  · replace c1 := bI_f c1
    first | (simp [hf, ht, hin, hne] at c1; done) | (simp at c1; omega) | (exact absurd c1 (by omega))
  · replace c1 := bI_t c1
    refine lv_iload_n hx hb d_M_title_11 rfl (lv_at hl 2 rfl) ?_
    refine rdS (As := [.int f]) (rest := []) ⟨hx, hb, hml, hown, htb⟩ (c_M_isHolder l D (wA ad kd g z v) (tA kd) f) (va_cwS 1 htb (gS tb_good mw_465 mw_466 mw_27 mw_467) rfl rfl rfl (by decide +kernel) ⟨Nat.le_of_ble_eq_true rfl, Nat.le_of_ble_eq_true rfl⟩) hP hK rfl hl.1 rfl (lv_room (Nat.le_of_ble_eq_true rfl)) d_M_title_12 ⟨Nat.zero_le _, Nat.zero_le _⟩ ?_
    refine lv_if_eq (tgt := 30) hx hb d_M_title_15 (by decide) (fun c2 => ?_) (fun c2 => ?_)
    · replace c2 := bI_f c2
      first | (simp [hf, ht, hin, hne] at c2; done) | (simp [hf, ht, hin, hne] at c1; done) | (simp at c2; omega) | (exact absurd c2 (by omega)) | (simp at c1; omega) | (exact absurd c1 (by omega))
    · replace c2 := bI_t c2
      refine lv_iload_n hx hb d_M_title_18 rfl (lv_at hl 3 rfl) ?_
      refine rdS (As := [.int t]) (rest := []) ⟨hx, hb, hml, hown, htb⟩ (c_M_isHolder l D (wA ad kd g z v) (tA kd) t) (va_cwS 1 htb (gS tb_good mw_465 mw_466 mw_27 mw_467) rfl rfl rfl (by decide +kernel) ⟨Nat.le_of_ble_eq_true rfl, Nat.le_of_ble_eq_true rfl⟩) hP hK rfl hl.1 rfl (lv_room (Nat.le_of_ble_eq_true rfl)) d_M_title_19 ⟨Nat.zero_le _, Nat.zero_le _⟩ ?_
      refine lv_if_eq (tgt := 30) hx hb d_M_title_22 (by decide) (fun c3 => ?_) (fun c3 => ?_)
      · replace c3 := bI_f c3
        first | (simp [hf, ht, hin, hne] at c3; done) | (simp [hf, ht, hin, hne] at c2; done) | (simp [hf, ht, hin, hne] at c1; done) | (simp at c3; omega) | (exact absurd c3 (by omega)) | (simp at c2; omega) | (exact absurd c2 (by omega)) | (simp at c1; omega) | (exact absurd c1 (by omega))
      · replace c3 := bI_t c3
        refine lv_iload_n hx hb d_M_title_25 rfl (lv_at hl 2 rfl) ?_
        refine lv_iload_n hx hb d_M_title_26 rfl (lv_at hl 3 rfl) ?_
        refine lv_icmp_ne (tgt := 40) hx hb d_M_title_27 (by decide) (fun c4 => ?_) (fun c4 => ?_)
        · refine lv_aload_n hx hb d_M_title_40 rfl (lv_at hl 0 rfl) ?_
          refine va_get (D := D) (ci := 0) (v := .ref (ad 1)) (C := R_M) (T := F_M) (N := 5) hx hb htb iw_M hown hK hP 0 rfl rfl 0 (by decide) (htb _ mw_161) (fun _ h9 => h9) rfl d_M_title_41 ?_
          refine va_get (D := D) (ci := 1) (v := .ref (ad 7)) (C := R_B) (T := F_B) (N := 8) hx hb htb iw_B hown hK hP 1 rfl rfl 6 (by decide) (htb _ mw_68) (fun _ h9 => h9) rfl d_M_title_44 ?_
          refine lv_iload_n hx hb d_M_title_47 rfl (lv_at hl 1 rfl) ?_
          refine q_iald hx hb hK hP 7 5 rfl rfl k (by omega) (by decide) d_M_title_48 ?_
          refine lv_iload_n hx hb d_M_title_49 rfl (lv_at hl 2 rfl) ?_
          refine lv_icmp_ne (tgt := 64) hx hb d_M_title_50 (by decide) (fun c5 => ?_) (fun c5 => ?_)
          · refine lv_iconst (v := 0) hx hb d_M_title_64 (by decide) ?_
            exact hret _ _ _ _ _ (by simp [titR, bI, c1, c2, c3, c4, c5]) (by rw [show titR g k f = false by simp [titR, c1, c2, c3, c4, c5]]; exact hP) hS d_M_title_65
          · refine lv_aload_n hx hb d_M_title_53 rfl (lv_at hl 0 rfl) ?_
            refine va_get (D := D) (ci := 0) (v := .ref (ad 1)) (C := R_M) (T := F_M) (N := 5) hx hb htb iw_M hown hK hP 0 rfl rfl 0 (by decide) (htb _ mw_161) (fun _ h9 => h9) rfl d_M_title_54 ?_
            refine lv_iload_n hx hb d_M_title_57 rfl (lv_at hl 1 rfl) ?_
            refine rdV (As := [.int (nI k)]) (rest := []) (b := ad 1) ⟨hx, hb, hml, hown, htb⟩ (c_B_isOrdered l D ad kd g z v k (by omega)) (cwV (C := R_B) 1 htb (gV tb_good mw_469 mw_390 mw_391 mw_28 mw_392) rfl rfl rfl (by decide +kernel) ⟨Nat.le_of_ble_eq_true rfl, Nat.le_of_ble_eq_true rfl⟩) hP hK (va_recv hK hP (ci := 1) (q0 := 1) rfl rfl) rfl hl.1 rfl (lv_room (Nat.le_of_ble_eq_true rfl)) d_M_title_58 ⟨Nat.zero_le _, Nat.zero_le _⟩ ?_
            refine lv_if_eq (tgt := 66) hx hb d_M_title_61 (by decide) (fun c6 => ?_) (fun c6 => ?_)
            · replace c6 := bI_f c6
              refine lv_aload_n hx hb d_M_title_66 rfl (lv_at hl 0 rfl) ?_
              refine va_get (D := D) (ci := 0) (v := .ref (ad 1)) (C := R_M) (T := F_M) (N := 5) hx hb htb iw_M hown hK hP 0 rfl rfl 0 (by decide) (htb _ mw_161) (fun _ h9 => h9) rfl d_M_title_67 ?_
              refine va_get (D := D) (ci := 1) (v := .ref (ad 7)) (C := R_B) (T := F_B) (N := 8) hx hb htb iw_B hown hK hP 1 rfl rfl 6 (by decide) (htb _ mw_68) (fun _ h9 => h9) rfl d_M_title_70 ?_
              refine lv_iload_n hx hb d_M_title_73 rfl (lv_at hl 1 rfl) ?_
              refine lv_iload_n hx hb d_M_title_74 rfl (lv_at hl 3 rfl) ?_
              refine q_iast hx hb hK hP hD hS 7 5 rfl rfl k (x := t) (by omega) (by decide) d_M_title_75 (fun H locs hP hD hS => ?_)
              have hP : va_P D classes (wA ad kd (up g 7 k t) z v) H := hP
              have hD : va_D A (wA ad kd (up g 7 k t) z v) := hD
              refine lv_iconst (v := 1) hx hb d_M_title_76 (by decide) ?_
              exact hret _ _ _ _ _ (by simp [titR, bI, c1, c2, c3, c4, c5, c6]) (by rw [show titR g k f = true by simp [titR, c1, c2, c3, c4, c5, c6]]; exact hP) hS d_M_title_77
            · replace c6 := bI_t c6
              refine lv_iconst (v := 0) hx hb d_M_title_64 (by decide) ?_
              exact hret _ _ _ _ _ (by simp [titR, bI, c1, c2, c3, c4, c5, c6]) (by rw [show titR g k f = false by simp [titR, c1, c2, c3, c4, c5, c6]]; exact hP) hS d_M_title_65
        · first | (simp [hf, ht, hin, hne] at c4; done) | (simp [hf, ht, hin, hne] at c3; done) | (simp [hf, ht, hin, hne] at c2; done) | (simp [hf, ht, hin, hne] at c1; done) | (simp at c4; omega) | (exact absurd c4 (by omega)) | (simp at c3; omega) | (exact absurd c3 (by omega)) | (simp at c2; omega) | (exact absurd c2 (by omega)) | (simp at c1; omega) | (exact absurd c1 (by omega))
set_option maxHeartbeats 4000000 in
set_option maxRecDepth 100000 in
theorem c_M_order (l : Launch) (D : va_G) (ad : Nat → Nat) (kd : Nat → ClassId) (g : Nat → Nat → Int32) (z : Nat → Int64) (v : Nat → Int32) (nb : Nat) (hnb : v 2 = nI nb) (hb6 : nb ≤ 60) (nx : Nat) (hnx : v 4 = nI nx) (hx6 : nx ≤ 60) (k : Nat) (hk : k < nb) (j : Nat) (hj : j < nx) (h : Int32) (hh : isHoS h = true) : WRi l y_M_order (.code y_M_order b_M_order 4 (some .int) :: TB) ({ frames := 1, cells := 0, slots := 0, locals := 22 } : Room) [.ref (ad 0), .int (nI k), .int (nI j), .int h] D classes (wA ad kd g z v) (wA ad kd (if ordR g z k j h = true then up (up g 21 j (nI k)) 8 k (g 8 k + 1) else g) z v) (tA kd) (bI (ordR g z k j h)) := by
  refine wr_of (by decide +kernel) (rfl) (Nat.le_of_ble_eq_true rfl) ?_
  intro p e s m args below meth c Q ls A hx hb hml htb hown hP hK hD hS hA hl hret
  have hl : lv_has ls 4 [(0, .ref (ad 0)), (1, .int (nI k)), (2, .int (nI j)), (3, .int h)] := hl
  have hin : inN nb (nI k) = true := inN_nI hk (by omega)
  have hjn : inN nx (nI j) = true := inN_nI hj (by omega)
  refine lv_aload_n hx hb d_M_order_0 rfl (lv_at hl 0 rfl) ?_
  refine va_get (D := D) (ci := 0) (v := .ref (ad 1)) (C := R_M) (T := F_M) (N := 5) hx hb htb iw_M hown hK hP 0 rfl rfl 0 (by decide) (htb _ mw_161) (fun _ h9 => h9) rfl d_M_order_1 ?_
  refine lv_iload_n hx hb d_M_order_4 rfl (lv_at hl 1 rfl) ?_
  refine rdV (As := [.int (nI k)]) (rest := []) (b := ad 1) ⟨hx, hb, hml, hown, htb⟩ (c_B_has l D ad kd g z v nb hnb hb6 (nI k)) (cwV (C := R_B) 1 htb (gV tb_good mw_185 mw_186 mw_187 mw_28 mw_188) rfl rfl rfl (by decide +kernel) ⟨Nat.le_of_ble_eq_true rfl, Nat.le_of_ble_eq_true rfl⟩) hP hK (va_recv hK hP (ci := 1) (q0 := 1) rfl rfl) rfl hl.1 rfl (lv_room (Nat.le_of_ble_eq_true rfl)) d_M_order_5 ⟨Nat.zero_le _, Nat.zero_le _⟩ ?_
  refine lv_if_eq (tgt := 29) hx hb d_M_order_8 (by decide) (fun c1 => ?_) (fun c1 => ?_)
  · replace c1 := bI_f c1
    first | (simp [hh, hin, hjn] at c1; done) | (simp at c1; omega) | (exact absurd c1 (by omega))
  · replace c1 := bI_t c1
    refine lv_aload_n hx hb d_M_order_11 rfl (lv_at hl 0 rfl) ?_
    refine va_get (D := D) (ci := 0) (v := .ref (ad 15)) (C := R_M) (T := F_M) (N := 5) hx hb htb iw_M hown hK hP 0 rfl rfl 2 (by decide) (htb _ mw_163) (fun _ h9 => h9) rfl d_M_order_12 ?_
    refine lv_iload_n hx hb d_M_order_15 rfl (lv_at hl 2 rfl) ?_
    refine rdV (As := [.int (nI j)]) (rest := []) (b := ad 15) ⟨hx, hb, hml, hown, htb⟩ (c_X_has l D ad kd g z v nx hnx hx6 (nI j)) (cwV (C := R_X) 1 htb (gV tb_good mw_181 mw_182 mw_183 mw_30 mw_184) rfl rfl rfl (by decide +kernel) ⟨Nat.le_of_ble_eq_true rfl, Nat.le_of_ble_eq_true rfl⟩) hP hK (va_recv hK hP (ci := 3) (q0 := 15) rfl rfl) rfl hl.1 rfl (lv_room (Nat.le_of_ble_eq_true rfl)) d_M_order_16 ⟨Nat.zero_le _, Nat.zero_le _⟩ ?_
    refine lv_if_eq (tgt := 29) hx hb d_M_order_19 (by decide) (fun c2 => ?_) (fun c2 => ?_)
    · replace c2 := bI_f c2
      first | (simp [hh, hin, hjn] at c2; done) | (simp [hh, hin, hjn] at c1; done) | (simp at c2; omega) | (exact absurd c2 (by omega)) | (simp at c1; omega) | (exact absurd c1 (by omega))
    · replace c2 := bI_t c2
      refine lv_iload_n hx hb d_M_order_22 rfl (lv_at hl 3 rfl) ?_
      refine rdS (As := [.int h]) (rest := []) ⟨hx, hb, hml, hown, htb⟩ (c_M_isHolder l D (wA ad kd g z v) (tA kd) h) (va_cwS 1 htb (gS tb_good mw_465 mw_466 mw_27 mw_467) rfl rfl rfl (by decide +kernel) ⟨Nat.le_of_ble_eq_true rfl, Nat.le_of_ble_eq_true rfl⟩) hP hK rfl hl.1 rfl (lv_room (Nat.le_of_ble_eq_true rfl)) d_M_order_23 ⟨Nat.zero_le _, Nat.zero_le _⟩ ?_
      refine lv_if_ne (tgt := 39) hx hb d_M_order_26 (by decide) (fun c3 => ?_) (fun c3 => ?_)
      · replace c3 := bI_t c3
        refine lv_aload_n hx hb d_M_order_39 rfl (lv_at hl 0 rfl) ?_
        refine va_get (D := D) (ci := 0) (v := .ref (ad 15)) (C := R_M) (T := F_M) (N := 5) hx hb htb iw_M hown hK hP 0 rfl rfl 2 (by decide) (htb _ mw_163) (fun _ h9 => h9) rfl d_M_order_40 ?_
        refine lv_iload_n hx hb d_M_order_43 rfl (lv_at hl 2 rfl) ?_
        refine rdV (As := [.int (nI j)]) (rest := []) (b := ad 15) ⟨hx, hb, hml, hown, htb⟩ (c_X_isOrdered l D ad kd g z v j (by omega)) (cwV (C := R_X) 1 htb (gV tb_good mw_203 mw_204 mw_205 mw_30 mw_206) rfl rfl rfl (by decide +kernel) ⟨Nat.le_of_ble_eq_true rfl, Nat.le_of_ble_eq_true rfl⟩) hP hK (va_recv hK hP (ci := 3) (q0 := 15) rfl rfl) rfl hl.1 rfl (lv_room (Nat.le_of_ble_eq_true rfl)) d_M_order_44 ⟨Nat.zero_le _, Nat.zero_le _⟩ ?_
        refine lv_if_ne (tgt := 73) hx hb d_M_order_47 (by decide) (fun c4 => ?_) (fun c4 => ?_)
        · replace c4 := bI_t c4
          refine lv_iconst (v := 0) hx hb d_M_order_73 (by decide) ?_
          exact hret _ _ _ _ _ (by simp [ordR, bI, c1, c2, c3, c4]) (by rw [show ordR g z k j h = false by simp [ordR, c1, c2, c3, c4]]; exact hP) hS d_M_order_74
        · replace c4 := bI_f c4
          refine lv_aload_n hx hb d_M_order_50 rfl (lv_at hl 0 rfl) ?_
          refine va_get (D := D) (ci := 0) (v := .ref (ad 15)) (C := R_M) (T := F_M) (N := 5) hx hb htb iw_M hown hK hP 0 rfl rfl 2 (by decide) (htb _ mw_163) (fun _ h9 => h9) rfl d_M_order_51 ?_
          refine lv_iload_n hx hb d_M_order_54 rfl (lv_at hl 2 rfl) ?_
          refine lv_iload_n hx hb d_M_order_55 rfl (lv_at hl 1 rfl) ?_
          refine rdV (As := [.int (nI j), .int (nI k)]) (rest := []) (b := ad 15) ⟨hx, hb, hml, hown, htb⟩ (c_X_isOn l D ad kd g z v j (by omega) (nI k)) (cwV (C := R_X) 2 htb (gV tb_good mw_189 mw_190 mw_191 mw_30 mw_192) rfl rfl rfl (by decide +kernel) ⟨Nat.le_of_ble_eq_true rfl, Nat.le_of_ble_eq_true rfl⟩) hP hK (va_recv hK hP (ci := 3) (q0 := 15) rfl rfl) rfl hl.1 rfl (lv_room (Nat.le_of_ble_eq_true rfl)) d_M_order_56 ⟨Nat.zero_le _, Nat.zero_le _⟩ ?_
          refine lv_if_eq (tgt := 73) hx hb d_M_order_59 (by decide) (fun c5 => ?_) (fun c5 => ?_)
          · replace c5 := bI_f c5
            refine lv_iconst (v := 0) hx hb d_M_order_73 (by decide) ?_
            exact hret _ _ _ _ _ (by simp [ordR, bI, c1, c2, c3, c4, c5]) (by rw [show ordR g z k j h = false by simp [ordR, c1, c2, c3, c4, c5]]; exact hP) hS d_M_order_74
          · replace c5 := bI_t c5
            refine lv_aload_n hx hb d_M_order_62 rfl (lv_at hl 0 rfl) ?_
            refine va_get (D := D) (ci := 0) (v := .ref (ad 15)) (C := R_M) (T := F_M) (N := 5) hx hb htb iw_M hown hK hP 0 rfl rfl 2 (by decide) (htb _ mw_163) (fun _ h9 => h9) rfl d_M_order_63 ?_
            refine lv_iload_n hx hb d_M_order_66 rfl (lv_at hl 2 rfl) ?_
            refine rdV (As := [.int (nI j)]) (rest := []) (b := ad 15) ⟨hx, hb, hml, hown, htb⟩ (c_X_hasLanded l D ad kd g z v j (by omega)) (cwV (C := R_X) 1 htb (gV tb_good mw_215 mw_216 mw_217 mw_30 mw_218) rfl rfl rfl (by decide +kernel) ⟨Nat.le_of_ble_eq_true rfl, Nat.le_of_ble_eq_true rfl⟩) hP hK (va_recv hK hP (ci := 3) (q0 := 15) rfl rfl) rfl hl.1 rfl (lv_room (Nat.le_of_ble_eq_true rfl)) d_M_order_67 ⟨Nat.zero_le _, Nat.zero_le _⟩ ?_
            refine lv_if_ne (tgt := 75) hx hb d_M_order_70 (by decide) (fun c6 => ?_) (fun c6 => ?_)
            · replace c6 := bI_t c6
              refine lv_aload_n hx hb d_M_order_75 rfl (lv_at hl 0 rfl) ?_
              refine va_get (D := D) (ci := 0) (v := .ref (ad 1)) (C := R_M) (T := F_M) (N := 5) hx hb htb iw_M hown hK hP 0 rfl rfl 0 (by decide) (htb _ mw_161) (fun _ h9 => h9) rfl d_M_order_76 ?_
              refine va_get (D := D) (ci := 1) (v := .ref (ad 7)) (C := R_B) (T := F_B) (N := 8) hx hb htb iw_B hown hK hP 1 rfl rfl 6 (by decide) (htb _ mw_68) (fun _ h9 => h9) rfl d_M_order_79 ?_
              refine lv_iload_n hx hb d_M_order_82 rfl (lv_at hl 1 rfl) ?_
              refine q_iald hx hb hK hP 7 5 rfl rfl k (by omega) (by decide) d_M_order_83 ?_
              refine lv_iload_n hx hb d_M_order_84 rfl (lv_at hl 3 rfl) ?_
              refine lv_icmp_eq (tgt := 90) hx hb d_M_order_85 (by decide) (fun c7 => ?_) (fun c7 => ?_)
              · refine lv_aload_n hx hb d_M_order_90 rfl (lv_at hl 0 rfl) ?_
                refine va_get (D := D) (ci := 0) (v := .ref (ad 15)) (C := R_M) (T := F_M) (N := 5) hx hb htb iw_M hown hK hP 0 rfl rfl 2 (by decide) (htb _ mw_163) (fun _ h9 => h9) rfl d_M_order_91 ?_
                refine va_get (D := D) (ci := 3) (v := .ref (ad 21)) (C := R_X) (T := F_X) (N := 9) hx hb htb iw_X hown hK hP 15 rfl rfl 6 (by decide) (htb _ mw_136) (fun _ h9 => h9) rfl d_M_order_94 ?_
                refine lv_iload_n hx hb d_M_order_97 rfl (lv_at hl 2 rfl) ?_
                refine lv_iload_n hx hb d_M_order_98 rfl (lv_at hl 1 rfl) ?_
                refine q_iast hx hb hK hP hD hS 21 17 rfl rfl j (x := (nI k)) (by omega) (by decide) d_M_order_99 (fun H locs hP hD hS => ?_)
                have hP : va_P D classes (wA ad kd (up g 21 j (nI k)) z v) H := hP
                have hD : va_D A (wA ad kd (up g 21 j (nI k)) z v) := hD
                refine lv_aload_n hx hb d_M_order_100 rfl (lv_at hl 0 rfl) ?_
                refine va_get (D := D) (ci := 0) (v := .ref (ad 1)) (C := R_M) (T := F_M) (N := 5) hx hb htb iw_M hown hK hP 0 rfl rfl 0 (by decide) (htb _ mw_161) (fun _ h9 => h9) rfl d_M_order_101 ?_
                refine va_get (D := D) (ci := 1) (v := .ref (ad 8)) (C := R_B) (T := F_B) (N := 8) hx hb htb iw_B hown hK hP 1 rfl rfl 7 (by decide) (htb _ mw_70) (fun _ h9 => h9) rfl d_M_order_104 ?_
                refine lv_iload_n hx hb d_M_order_107 rfl (lv_at hl 1 rfl) ?_
                refine lv_dup2_11 hx hb d_M_order_108 rfl rfl ?_
                refine q_iald hx hb hK hP 8 6 rfl rfl k (by omega) (by decide) d_M_order_109 ?_
                refine lv_iconst (v := 1) hx hb d_M_order_110 (by decide) ?_
                refine lv_iadd hx hb d_M_order_111 ?_
                refine q_iast hx hb hK hP hD hS 8 6 rfl rfl k (x := ((g 8 k) + 1)) (by omega) (by decide) d_M_order_112 (fun H locs hP hD hS => ?_)
                have hP : va_P D classes (wA ad kd (up (up g 21 j (nI k)) 8 k ((g 8 k) + 1)) z v) H := hP
                have hD : va_D A (wA ad kd (up (up g 21 j (nI k)) 8 k ((g 8 k) + 1)) z v) := hD
                refine lv_iconst (v := 1) hx hb d_M_order_113 (by decide) ?_
                exact hret _ _ _ _ _ (by simp [ordR, bI, c1, c2, c3, c4, c5, c6, c7]) (by rw [show ordR g z k j h = true by simp [ordR, c1, c2, c3, c4, c5, c6, c7]]; exact hP) hS d_M_order_114
              · refine lv_iconst (v := 0) hx hb d_M_order_88 (by decide) ?_
                exact hret _ _ _ _ _ (by simp [ordR, bI, c1, c2, c3, c4, c5, c6, c7]) (by rw [show ordR g z k j h = false by simp [ordR, c1, c2, c3, c4, c5, c6, c7]]; exact hP) hS d_M_order_89
            · replace c6 := bI_f c6
              refine lv_iconst (v := 0) hx hb d_M_order_73 (by decide) ?_
              exact hret _ _ _ _ _ (by simp [ordR, bI, c1, c2, c3, c4, c5, c6]) (by rw [show ordR g z k j h = false by simp [ordR, c1, c2, c3, c4, c5, c6]]; exact hP) hS d_M_order_74
      · replace c3 := bI_f c3
        first | (simp [hh, hin, hjn] at c3; done) | (simp [hh, hin, hjn] at c2; done) | (simp [hh, hin, hjn] at c1; done) | (simp at c3; omega) | (exact absurd c3 (by omega)) | (simp at c2; omega) | (exact absurd c2 (by omega)) | (simp at c1; omega) | (exact absurd c1 (by omega))
set_option maxHeartbeats 4000000 in
set_option maxRecDepth 100000 in
theorem c_M_look (l : Launch) (D : va_G) (ad : Nat → Nat) (kd : Nat → ClassId) (g : Nat → Nat → Int32) (z : Nat → Int64) (v : Nat → Int32) (nb : Nat) (hnb : v 2 = nI nb) (hb6 : nb ≤ 60) (nx : Nat) (hnx : v 4 = nI nx) (hx6 : nx ≤ 60) (j : Nat) (hj : j < nb) (k : Nat) (hk : k < 16) : RD l y_M_look (.code y_M_look b_M_look 3 (some .int) :: TB) ({ frames := 4, cells := 0, slots := 0, locals := 89 } : Room) [.ref (ad 0), .int (nI j), .int (nI k)] D classes (wA ad kd g z v) (tA kd) (looS g z nb nx j k) := by
  refine rd_of (by decide +kernel) (rfl) (Nat.le_of_ble_eq_true rfl) ?_
  intro p e s m args below meth c Q ls hx hb hml htb hown hP hK hl hret
  have hl : lv_has ls 3 [(0, .ref (ad 0)), (1, .int (nI j)), (2, .int (nI k))] := hl
  have hin : inN nb (nI j) = true := inN_nI hj (by omega)
  refine lv_aload_n hx hb d_M_look_0 rfl (lv_at hl 0 rfl) ?_
  refine va_get (D := D) (ci := 0) (v := .ref (ad 1)) (C := R_M) (T := F_M) (N := 5) hx hb htb iw_M hown hK hP 0 rfl rfl 0 (by decide) (htb _ mw_161) (fun _ h9 => h9) rfl d_M_look_1 ?_
  refine lv_iload_n hx hb d_M_look_4 rfl (lv_at hl 1 rfl) ?_
  refine rdV (As := [.int (nI j)]) (rest := []) (b := ad 1) ⟨hx, hb, hml, hown, htb⟩ (c_B_has l D ad kd g z v nb hnb hb6 (nI j)) (cwV (C := R_B) 1 htb (gV tb_good mw_185 mw_186 mw_187 mw_28 mw_188) rfl rfl rfl (by decide +kernel) ⟨Nat.le_of_ble_eq_true rfl, Nat.le_of_ble_eq_true rfl⟩) hP hK (va_recv hK hP (ci := 1) (q0 := 1) rfl rfl) rfl hl.1 rfl (lv_room (Nat.le_of_ble_eq_true rfl)) d_M_look_5 ⟨Nat.zero_le _, Nat.zero_le _⟩ ?_
  refine lv_if_ne (tgt := 21) hx hb d_M_look_8 (by decide) (fun c1 => ?_) (fun c1 => ?_)
  · replace c1 := bI_t c1
    refine lv_iload_n hx hb d_M_look_21 rfl (lv_at hl 2 rfl) ?_
    rcases (show k = 0 ∨ k = 1 ∨ k = 2 ∨ k = 3 ∨ k = 4 ∨ k = 5 ∨ k = 6 ∨ k = 7 ∨ k = 8 ∨ k = 9 ∨ k = 10 ∨ k = 11 ∨ k = 12 ∨ k = 13 ∨ k = 14 ∨ k = 15 by omega) with rfl | rfl | rfl | rfl | rfl | rfl | rfl | rfl | rfl | rfl | rfl | rfl | rfl | rfl | rfl | rfl
    · refine lv_tableIn (tgt := 100) hx hb d_M_look_22 (by decide) (by decide) rfl (by decide) ?_
      refine lv_aload_n hx hb d_M_look_100 rfl (lv_at hl 0 rfl) ?_
      refine va_get (D := D) (ci := 0) (v := .ref (ad 1)) (C := R_M) (T := F_M) (N := 5) hx hb htb iw_M hown hK hP 0 rfl rfl 0 (by decide) (htb _ mw_161) (fun _ h9 => h9) rfl d_M_look_101 ?_
      refine va_get (D := D) (ci := 1) (v := .ref (ad 2)) (C := R_B) (T := F_B) (N := 8) hx hb htb iw_B hown hK hP 1 rfl rfl 1 (by decide) (htb _ mw_58) (fun _ h9 => h9) rfl d_M_look_104 ?_
      refine lv_iload_n hx hb d_M_look_107 rfl (lv_at hl 1 rfl) ?_
      refine q_iald hx hb hK hP 2 0 rfl rfl j (by omega) (by decide) d_M_look_108 ?_
      exact hret _ _ _ rfl d_M_look_109
    · refine lv_tableIn (tgt := 110) hx hb d_M_look_22 (by decide) (by decide) rfl (by decide) ?_
      refine lv_aload_n hx hb d_M_look_110 rfl (lv_at hl 0 rfl) ?_
      refine va_get (D := D) (ci := 0) (v := .ref (ad 1)) (C := R_M) (T := F_M) (N := 5) hx hb htb iw_M hown hK hP 0 rfl rfl 0 (by decide) (htb _ mw_161) (fun _ h9 => h9) rfl d_M_look_111 ?_
      refine va_get (D := D) (ci := 1) (v := .ref (ad 3)) (C := R_B) (T := F_B) (N := 8) hx hb htb iw_B hown hK hP 1 rfl rfl 2 (by decide) (htb _ mw_60) (fun _ h9 => h9) rfl d_M_look_114 ?_
      refine lv_iload_n hx hb d_M_look_117 rfl (lv_at hl 1 rfl) ?_
      refine q_iald hx hb hK hP 3 1 rfl rfl j (by omega) (by decide) d_M_look_118 ?_
      exact hret _ _ _ rfl d_M_look_119
    · refine lv_tableIn (tgt := 120) hx hb d_M_look_22 (by decide) (by decide) rfl (by decide) ?_
      refine lv_aload_n hx hb d_M_look_120 rfl (lv_at hl 0 rfl) ?_
      refine va_get (D := D) (ci := 0) (v := .ref (ad 1)) (C := R_M) (T := F_M) (N := 5) hx hb htb iw_M hown hK hP 0 rfl rfl 0 (by decide) (htb _ mw_161) (fun _ h9 => h9) rfl d_M_look_121 ?_
      refine va_get (D := D) (ci := 1) (v := .ref (ad 4)) (C := R_B) (T := F_B) (N := 8) hx hb htb iw_B hown hK hP 1 rfl rfl 3 (by decide) (htb _ mw_62) (fun _ h9 => h9) rfl d_M_look_124 ?_
      refine lv_iload_n hx hb d_M_look_127 rfl (lv_at hl 1 rfl) ?_
      refine q_iald hx hb hK hP 4 2 rfl rfl j (by omega) (by decide) d_M_look_128 ?_
      exact hret _ _ _ rfl d_M_look_129
    · refine lv_tableIn (tgt := 130) hx hb d_M_look_22 (by decide) (by decide) rfl (by decide) ?_
      refine lv_aload_n hx hb d_M_look_130 rfl (lv_at hl 0 rfl) ?_
      refine va_get (D := D) (ci := 0) (v := .ref (ad 1)) (C := R_M) (T := F_M) (N := 5) hx hb htb iw_M hown hK hP 0 rfl rfl 0 (by decide) (htb _ mw_161) (fun _ h9 => h9) rfl d_M_look_131 ?_
      refine va_get (D := D) (ci := 1) (v := .ref (ad 5)) (C := R_B) (T := F_B) (N := 8) hx hb htb iw_B hown hK hP 1 rfl rfl 4 (by decide) (htb _ mw_64) (fun _ h9 => h9) rfl d_M_look_134 ?_
      refine lv_iload_n hx hb d_M_look_137 rfl (lv_at hl 1 rfl) ?_
      refine q_iald hx hb hK hP 5 3 rfl rfl j (by omega) (by decide) d_M_look_138 ?_
      exact hret _ _ _ rfl d_M_look_139
    · refine lv_tableIn (tgt := 140) hx hb d_M_look_22 (by decide) (by decide) rfl (by decide) ?_
      refine lv_aload_n hx hb d_M_look_140 rfl (lv_at hl 0 rfl) ?_
      refine va_get (D := D) (ci := 0) (v := .ref (ad 9)) (C := R_M) (T := F_M) (N := 5) hx hb htb iw_M hown hK hP 0 rfl rfl 1 (by decide) (htb _ mw_162) (fun _ h9 => h9) rfl d_M_look_141 ?_
      refine va_get (D := D) (ci := 2) (v := .ref (ad 12)) (C := R_N) (T := F_N) (N := 6) hx hb htb iw_N hown hK hP 9 rfl rfl 3 (by decide) (htb _ mw_100) (fun _ h9 => h9) rfl d_M_look_144 ?_
      refine lv_iload_n hx hb d_M_look_147 rfl (lv_at hl 1 rfl) ?_
      refine q_iald hx hb hK hP 12 9 rfl rfl j (by omega) (by decide) d_M_look_148 ?_
      exact hret _ _ _ rfl d_M_look_149
    · refine lv_tableIn (tgt := 150) hx hb d_M_look_22 (by decide) (by decide) rfl (by decide) ?_
      refine lv_aload_n hx hb d_M_look_150 rfl (lv_at hl 0 rfl) ?_
      refine va_get (D := D) (ci := 0) (v := .ref (ad 9)) (C := R_M) (T := F_M) (N := 5) hx hb htb iw_M hown hK hP 0 rfl rfl 1 (by decide) (htb _ mw_162) (fun _ h9 => h9) rfl d_M_look_151 ?_
      refine va_get (D := D) (ci := 2) (v := .ref (ad 13)) (C := R_N) (T := F_N) (N := 6) hx hb htb iw_N hown hK hP 9 rfl rfl 4 (by decide) (htb _ mw_102) (fun _ h9 => h9) rfl d_M_look_154 ?_
      refine lv_iload_n hx hb d_M_look_157 rfl (lv_at hl 1 rfl) ?_
      refine q_iald hx hb hK hP 13 10 rfl rfl j (by omega) (by decide) d_M_look_158 ?_
      exact hret _ _ _ rfl d_M_look_159
    · refine lv_tableIn (tgt := 160) hx hb d_M_look_22 (by decide) (by decide) rfl (by decide) ?_
      refine lv_aload_n hx hb d_M_look_160 rfl (lv_at hl 0 rfl) ?_
      refine va_get (D := D) (ci := 0) (v := .ref (ad 9)) (C := R_M) (T := F_M) (N := 5) hx hb htb iw_M hown hK hP 0 rfl rfl 1 (by decide) (htb _ mw_162) (fun _ h9 => h9) rfl d_M_look_161 ?_
      refine va_get (D := D) (ci := 2) (v := .ref (ad 14)) (C := R_N) (T := F_N) (N := 6) hx hb htb iw_N hown hK hP 9 rfl rfl 5 (by decide) (htb _ mw_104) (fun _ h9 => h9) rfl d_M_look_164 ?_
      refine lv_iload_n hx hb d_M_look_167 rfl (lv_at hl 1 rfl) ?_
      refine q_iald hx hb hK hP 14 11 rfl rfl j (by omega) (by decide) d_M_look_168 ?_
      exact hret _ _ _ rfl d_M_look_169
    · refine lv_tableIn (tgt := 170) hx hb d_M_look_22 (by decide) (by decide) rfl (by decide) ?_
      refine lv_aload_n hx hb d_M_look_170 rfl (lv_at hl 0 rfl) ?_
      refine lv_iload_n hx hb d_M_look_171 rfl (lv_at hl 1 rfl) ?_
      refine rdV (As := [.int (nI j)]) (rest := []) (b := ad 0) ⟨hx, hb, hml, hown, htb⟩ (c_M_difference l D ad kd g z v nb hnb hb6 j (by omega)) (cwV (C := R_M) 1 htb (gV tb_good mw_278 mw_280 mw_3 mw_27 mw_281) rfl rfl rfl (by decide +kernel) ⟨Nat.le_of_ble_eq_true rfl, Nat.le_of_ble_eq_true rfl⟩) hP hK (va_recv hK hP (ci := 0) (q0 := 0) rfl rfl) rfl hl.1 rfl (lv_room (Nat.le_of_ble_eq_true rfl)) d_M_look_172 ⟨Nat.zero_le _, Nat.zero_le _⟩ ?_
      exact hret _ _ _ rfl d_M_look_175
    · refine lv_tableIn (tgt := 176) hx hb d_M_look_22 (by decide) (by decide) rfl (by decide) ?_
      refine lv_aload_n hx hb d_M_look_176 rfl (lv_at hl 0 rfl) ?_
      refine va_get (D := D) (ci := 0) (v := .ref (ad 15)) (C := R_M) (T := F_M) (N := 5) hx hb htb iw_M hown hK hP 0 rfl rfl 2 (by decide) (htb _ mw_163) (fun _ h9 => h9) rfl d_M_look_177 ?_
      refine lv_iload_n hx hb d_M_look_180 rfl (lv_at hl 1 rfl) ?_
      refine rdV (As := [.int (nI j)]) (rest := []) (b := ad 15) ⟨hx, hb, hml, hown, htb⟩ (c_X_landedOf l D ad kd g z v nx hnx hx6 (nI j)) (cwV (C := R_X) 1 htb (gV tb_good mw_529 mw_530 mw_531 mw_30 mw_532) rfl rfl rfl (by decide +kernel) ⟨Nat.le_of_ble_eq_true rfl, Nat.le_of_ble_eq_true rfl⟩) hP hK (va_recv hK hP (ci := 3) (q0 := 15) rfl rfl) rfl hl.1 rfl (lv_room (Nat.le_of_ble_eq_true rfl)) d_M_look_181 ⟨Nat.zero_le _, Nat.zero_le _⟩ ?_
      exact hret _ _ _ rfl d_M_look_184
    · refine lv_tableIn (tgt := 185) hx hb d_M_look_22 (by decide) (by decide) rfl (by decide) ?_
      refine lv_aload_n hx hb d_M_look_185 rfl (lv_at hl 0 rfl) ?_
      refine va_get (D := D) (ci := 0) (v := .ref (ad 9)) (C := R_M) (T := F_M) (N := 5) hx hb htb iw_M hown hK hP 0 rfl rfl 1 (by decide) (htb _ mw_162) (fun _ h9 => h9) rfl d_M_look_186 ?_
      refine va_get (D := D) (ci := 2) (v := .ref (ad 13)) (C := R_N) (T := F_N) (N := 6) hx hb htb iw_N hown hK hP 9 rfl rfl 4 (by decide) (htb _ mw_102) (fun _ h9 => h9) rfl d_M_look_189 ?_
      refine lv_iload_n hx hb d_M_look_192 rfl (lv_at hl 1 rfl) ?_
      refine q_iald hx hb hK hP 13 10 rfl rfl j (by omega) (by decide) d_M_look_193 ?_
      refine lv_aload_n hx hb d_M_look_194 rfl (lv_at hl 0 rfl) ?_
      refine va_get (D := D) (ci := 0) (v := .ref (ad 15)) (C := R_M) (T := F_M) (N := 5) hx hb htb iw_M hown hK hP 0 rfl rfl 2 (by decide) (htb _ mw_163) (fun _ h9 => h9) rfl d_M_look_195 ?_
      refine lv_iload_n hx hb d_M_look_198 rfl (lv_at hl 1 rfl) ?_
      refine rdV (As := [.int (nI j)]) (rest := [.int (g 13 j)]) (b := ad 15) ⟨hx, hb, hml, hown, htb⟩ (c_X_landedOf l D ad kd g z v nx hnx hx6 (nI j)) (cwV (C := R_X) 1 htb (gV tb_good mw_529 mw_530 mw_531 mw_30 mw_532) rfl rfl rfl (by decide +kernel) ⟨Nat.le_of_ble_eq_true rfl, Nat.le_of_ble_eq_true rfl⟩) hP hK (va_recv hK hP (ci := 3) (q0 := 15) rfl rfl) rfl hl.1 rfl (lv_room (Nat.le_of_ble_eq_true rfl)) d_M_look_199 ⟨Nat.zero_le _, Nat.zero_le _⟩ ?_
      refine lv_isub hx hb d_M_look_202 ?_
      refine lv_iconst (v := 0) hx hb d_M_look_203 (by decide) ?_
      refine va_mmax hx hb (by rw [hml]; exact hl.1.symm) hown (htb _ mw_539) (htb _ mw_540) (htb _ mw_38) (htb _ mw_541) (Nat.le_of_ble_eq_true rfl) (Nat.le_of_ble_eq_true rfl) (Nat.zero_le _) (Nat.zero_le _) d_M_look_204 ?_
      exact hret _ _ _ rfl d_M_look_207
    · refine lv_tableIn (tgt := 208) hx hb d_M_look_22 (by decide) (by decide) rfl (by decide) ?_
      refine lv_aload_n hx hb d_M_look_208 rfl (lv_at hl 0 rfl) ?_
      refine va_get (D := D) (ci := 0) (v := .ref (ad 15)) (C := R_M) (T := F_M) (N := 5) hx hb htb iw_M hown hK hP 0 rfl rfl 2 (by decide) (htb _ mw_163) (fun _ h9 => h9) rfl d_M_look_209 ?_
      refine lv_iload_n hx hb d_M_look_212 rfl (lv_at hl 1 rfl) ?_
      refine rdV (As := [.int (nI j)]) (rest := []) (b := ad 15) ⟨hx, hb, hml, hown, htb⟩ (c_X_landedOf l D ad kd g z v nx hnx hx6 (nI j)) (cwV (C := R_X) 1 htb (gV tb_good mw_529 mw_530 mw_531 mw_30 mw_532) rfl rfl rfl (by decide +kernel) ⟨Nat.le_of_ble_eq_true rfl, Nat.le_of_ble_eq_true rfl⟩) hP hK (va_recv hK hP (ci := 3) (q0 := 15) rfl rfl) rfl hl.1 rfl (lv_room (Nat.le_of_ble_eq_true rfl)) d_M_look_213 ⟨Nat.zero_le _, Nat.zero_le _⟩ ?_
      refine lv_aload_n hx hb d_M_look_216 rfl (lv_at hl 0 rfl) ?_
      refine va_get (D := D) (ci := 0) (v := .ref (ad 9)) (C := R_M) (T := F_M) (N := 5) hx hb htb iw_M hown hK hP 0 rfl rfl 1 (by decide) (htb _ mw_162) (fun _ h9 => h9) rfl d_M_look_217 ?_
      refine va_get (D := D) (ci := 2) (v := .ref (ad 13)) (C := R_N) (T := F_N) (N := 6) hx hb htb iw_N hown hK hP 9 rfl rfl 4 (by decide) (htb _ mw_102) (fun _ h9 => h9) rfl d_M_look_220 ?_
      refine lv_iload_n hx hb d_M_look_223 rfl (lv_at hl 1 rfl) ?_
      refine q_iald hx hb hK hP 13 10 rfl rfl j (by omega) (by decide) d_M_look_224 ?_
      refine lv_isub hx hb d_M_look_225 ?_
      refine lv_iconst (v := 0) hx hb d_M_look_226 (by decide) ?_
      refine va_mmax hx hb (by rw [hml]; exact hl.1.symm) hown (htb _ mw_539) (htb _ mw_540) (htb _ mw_38) (htb _ mw_541) (Nat.le_of_ble_eq_true rfl) (Nat.le_of_ble_eq_true rfl) (Nat.zero_le _) (Nat.zero_le _) d_M_look_227 ?_
      exact hret _ _ _ rfl d_M_look_230
    · refine lv_tableIn (tgt := 231) hx hb d_M_look_22 (by decide) (by decide) rfl (by decide) ?_
      refine lv_aload_n hx hb d_M_look_231 rfl (lv_at hl 0 rfl) ?_
      refine va_get (D := D) (ci := 0) (v := .ref (ad 1)) (C := R_M) (T := F_M) (N := 5) hx hb htb iw_M hown hK hP 0 rfl rfl 0 (by decide) (htb _ mw_161) (fun _ h9 => h9) rfl d_M_look_232 ?_
      refine va_get (D := D) (ci := 1) (v := .ref (ad 7)) (C := R_B) (T := F_B) (N := 8) hx hb htb iw_B hown hK hP 1 rfl rfl 6 (by decide) (htb _ mw_68) (fun _ h9 => h9) rfl d_M_look_235 ?_
      refine lv_iload_n hx hb d_M_look_238 rfl (lv_at hl 1 rfl) ?_
      refine q_iald hx hb hK hP 7 5 rfl rfl j (by omega) (by decide) d_M_look_239 ?_
      exact hret _ _ _ rfl d_M_look_240
    · refine lv_tableIn (tgt := 241) hx hb d_M_look_22 (by decide) (by decide) rfl (by decide) ?_
      refine lv_aload_n hx hb d_M_look_241 rfl (lv_at hl 0 rfl) ?_
      refine va_get (D := D) (ci := 0) (v := .ref (ad 1)) (C := R_M) (T := F_M) (N := 5) hx hb htb iw_M hown hK hP 0 rfl rfl 0 (by decide) (htb _ mw_161) (fun _ h9 => h9) rfl d_M_look_242 ?_
      refine va_get (D := D) (ci := 1) (v := .ref (ad 8)) (C := R_B) (T := F_B) (N := 8) hx hb htb iw_B hown hK hP 1 rfl rfl 7 (by decide) (htb _ mw_70) (fun _ h9 => h9) rfl d_M_look_245 ?_
      refine lv_iload_n hx hb d_M_look_248 rfl (lv_at hl 1 rfl) ?_
      refine q_iald hx hb hK hP 8 6 rfl rfl j (by omega) (by decide) d_M_look_249 ?_
      exact hret _ _ _ rfl d_M_look_250
    · refine lv_tableIn (tgt := 251) hx hb d_M_look_22 (by decide) (by decide) rfl (by decide) ?_
      refine lv_aload_n hx hb d_M_look_251 rfl (lv_at hl 0 rfl) ?_
      refine va_get (D := D) (ci := 0) (v := .ref (ad 1)) (C := R_M) (T := F_M) (N := 5) hx hb htb iw_M hown hK hP 0 rfl rfl 0 (by decide) (htb _ mw_161) (fun _ h9 => h9) rfl d_M_look_252 ?_
      refine lv_iload_n hx hb d_M_look_255 rfl (lv_at hl 1 rfl) ?_
      refine rdV (As := [.int (nI j)]) (rest := []) (b := ad 1) ⟨hx, hb, hml, hown, htb⟩ (c_B_under l D ad kd g z v nb hnb hb6 (nI j)) (cwV (C := R_B) 1 htb (gV tb_good mw_487 mw_488 mw_489 mw_28 mw_490) rfl rfl rfl (by decide +kernel) ⟨Nat.le_of_ble_eq_true rfl, Nat.le_of_ble_eq_true rfl⟩) hP hK (va_recv hK hP (ci := 1) (q0 := 1) rfl rfl) rfl hl.1 rfl (lv_room (Nat.le_of_ble_eq_true rfl)) d_M_look_256 ⟨Nat.zero_le _, Nat.zero_le _⟩ ?_
      exact hret _ _ _ rfl d_M_look_259
    · refine lv_tableIn (tgt := 260) hx hb d_M_look_22 (by decide) (by decide) rfl (by decide) ?_
      refine lv_aload_n hx hb d_M_look_260 rfl (lv_at hl 0 rfl) ?_
      refine va_get (D := D) (ci := 0) (v := .ref (ad 15)) (C := R_M) (T := F_M) (N := 5) hx hb htb iw_M hown hK hP 0 rfl rfl 2 (by decide) (htb _ mw_163) (fun _ h9 => h9) rfl d_M_look_261 ?_
      refine lv_iload_n hx hb d_M_look_264 rfl (lv_at hl 1 rfl) ?_
      refine rdV (As := [.int (nI j)]) (rest := []) (b := ad 15) ⟨hx, hb, hml, hown, htb⟩ (c_X_boxesOn l D ad kd g z v nx hnx hx6 (nI j)) (cwV (C := R_X) 1 htb (gV tb_good mw_542 mw_543 mw_544 mw_30 mw_545) rfl rfl rfl (by decide +kernel) ⟨Nat.le_of_ble_eq_true rfl, Nat.le_of_ble_eq_true rfl⟩) hP hK (va_recv hK hP (ci := 3) (q0 := 15) rfl rfl) rfl hl.1 rfl (lv_room (Nat.le_of_ble_eq_true rfl)) d_M_look_265 ⟨Nat.zero_le _, Nat.zero_le _⟩ ?_
      exact hret _ _ _ rfl d_M_look_268
    · refine lv_tableIn (tgt := 269) hx hb d_M_look_22 (by decide) (by decide) rfl (by decide) ?_
      refine lv_aload_n hx hb d_M_look_269 rfl (lv_at hl 0 rfl) ?_
      refine va_get (D := D) (ci := 0) (v := .ref (ad 1)) (C := R_M) (T := F_M) (N := 5) hx hb htb iw_M hown hK hP 0 rfl rfl 0 (by decide) (htb _ mw_161) (fun _ h9 => h9) rfl d_M_look_270 ?_
      refine va_get (D := D) (ci := 1) (v := .ref (ad 6)) (C := R_B) (T := F_B) (N := 8) hx hb htb iw_B hown hK hP 1 rfl rfl 5 (by decide) (htb _ mw_66) (fun _ h9 => h9) rfl d_M_look_273 ?_
      refine lv_iload_n hx hb d_M_look_276 rfl (lv_at hl 1 rfl) ?_
      refine q_iald hx hb hK hP 6 4 rfl rfl j (by omega) (by decide) d_M_look_277 ?_
      exact hret _ _ _ rfl d_M_look_278
  · replace c1 := bI_f c1
    first | (simp [hin] at c1; done) | (simp at c1; omega) | (exact absurd c1 (by omega))
end
section
theorem takN_at {k j : Nat} (h1 : j ≠ 11) (h2 : j ≠ 13) : ∀ (r : Nat) (lf : Int32) (g : Nat → Nat → Int32), takN k r lf g j = g j
  | 0, _, _ => rfl
  | r + 1, lf, g => by
    show (if lf ≤ 0 then g else if g 10 r = nI k then takN k r (lf - (if g 11 r < lf then g 11 r else lf)) (chgN g r (g 11 r - (if g 11 r < lf then g 11 r else lf)) k) else takN k r lf g) j = g j
    split
    · rfl
    · split
      · rw [takN_at h1 h2]
        show (if j = 13 then _ else (if j = 11 then _ else g j)) = g j
        rw [if_neg h2, if_neg h1]
      · exact takN_at h1 h2 r lf g
def spR (g : Nat → Nat → Int32) (nb k : Nat) (w : Int32) : Bool :=
  if g 13 k ≤ w then false else if 0 < nI (undB g nb (nI k)) then false else if ordB g k = true then false else if nfnL g nb k 60 1 = -1 then false else true
end
section
set_option maxHeartbeats 4000000 in
set_option maxRecDepth 100000 in
theorem c_M_split (l : Launch) (D : va_G) (ad : Nat → Nat) (kd : Nat → ClassId) (g : Nat → Nat → Int32) (z : Nat → Int64) (v : Nat → Int32) (nb : Nat) (hnb : v 2 = nI nb) (hb6 : nb ≤ 60) (nl : Nat) (hnl : v 3 = nI nl) (hl2 : nl ≤ 200) (hlt : nb < 60) (hlt2 : nl < 200) (k : Nat) (hk : k < nb) (w : Int32) (hw1 : 1 ≤ w) : WRi l y_M_split (.code y_M_split b_M_split 5 (some .int) :: TB) ({ frames := 2, cells := 0, slots := 0, locals := 48 } : Room) [.ref (ad 0), .int (nI k), .int w] D classes (wA ad kd g z v) (wA ad kd (if spR g nb k w = true then splG g nb nl k w else g) z (if spR g nb k w = true then upd (upd v 2 (nI nb + 1)) 3 (nI nl + 1) else v)) (tA kd) (if spR g nb k w = true then nI nb else -1) := by
  refine wr_of (by decide +kernel) (rfl) (Nat.le_of_ble_eq_true rfl) ?_
  intro p e s m args below meth c Q ls A hx hb hml htb hown hP hK hD hS hA hl hret
  have hl : lv_has ls 5 [(0, .ref (ad 0)), (1, .int (nI k)), (2, .int w)] := hl
  have hin : inN nb (nI k) = true := inN_nI hk (by omega)
  refine lv_aload_n hx hb d_M_split_0 rfl (lv_at hl 0 rfl) ?_
  refine va_get (D := D) (ci := 0) (v := .ref (ad 1)) (C := R_M) (T := F_M) (N := 5) hx hb htb iw_M hown hK hP 0 rfl rfl 0 (by decide) (htb _ mw_161) (fun _ h9 => h9) rfl d_M_split_1 ?_
  refine lv_iload_n hx hb d_M_split_4 rfl (lv_at hl 1 rfl) ?_
  refine rdV (As := [.int (nI k)]) (rest := []) (b := ad 1) ⟨hx, hb, hml, hown, htb⟩ (c_B_has l D ad kd g z v nb hnb hb6 (nI k)) (cwV (C := R_B) 1 htb (gV tb_good mw_185 mw_186 mw_187 mw_28 mw_188) rfl rfl rfl (by decide +kernel) ⟨Nat.le_of_ble_eq_true rfl, Nat.le_of_ble_eq_true rfl⟩) hP hK (va_recv hK hP (ci := 1) (q0 := 1) rfl rfl) rfl hl.1 rfl (lv_room (Nat.le_of_ble_eq_true rfl)) d_M_split_5 ⟨Nat.zero_le _, Nat.zero_le _⟩ ?_
  refine lv_if_eq (tgt := 16) hx hb d_M_split_8 (by decide) (fun c1 => ?_) (fun c1 => ?_)
  · replace c1 := bI_f c1
    first | (simp [hin, hw1] at c1; done) | (simp at c1; omega) | (exact absurd c1 (by omega))
  · replace c1 := bI_t c1
    refine lv_iload_n hx hb d_M_split_11 rfl (lv_at hl 2 rfl) ?_
    refine lv_iconst (v := 1) hx hb d_M_split_12 (by decide) ?_
    refine lv_icmp_ge (tgt := 26) hx hb d_M_split_13 (by decide) (fun c2 => ?_) (fun c2 => ?_)
    · refine lv_aload_n hx hb d_M_split_26 rfl (lv_at hl 0 rfl) ?_
      refine va_get (D := D) (ci := 0) (v := .ref (ad 1)) (C := R_M) (T := F_M) (N := 5) hx hb htb iw_M hown hK hP 0 rfl rfl 0 (by decide) (htb _ mw_161) (fun _ h9 => h9) rfl d_M_split_27 ?_
      refine rdV (As := []) (rest := []) (b := ad 1) ⟨hx, hb, hml, hown, htb⟩ (c_B_isFull l D ad kd g z v nb hnb hb6) (cwV (C := R_B) 0 htb (gV tb_good mw_364 mw_365 mw_366 mw_28 mw_367) rfl rfl rfl (by decide +kernel) ⟨Nat.le_of_ble_eq_true rfl, Nat.le_of_ble_eq_true rfl⟩) hP hK (va_recv hK hP (ci := 1) (q0 := 1) rfl rfl) rfl hl.1 rfl (lv_room (Nat.le_of_ble_eq_true rfl)) d_M_split_30 ⟨Nat.zero_le _, Nat.zero_le _⟩ ?_
      refine lv_if_ne (tgt := 46) hx hb d_M_split_33 (by decide) (fun c3 => ?_) (fun c3 => ?_)
      · replace c3 := bI_t c3
        first | (simp [hin, hw1] at c3; done) | (simp [hin, hw1] at c2; done) | (simp [hin, hw1] at c1; done) | (simp at c3; omega) | (exact absurd c3 (by omega)) | (simp at c2; omega) | (exact absurd c2 (by omega)) | (simp at c1; omega) | (exact absurd c1 (by omega))
      · replace c3 := bI_f c3
        refine lv_aload_n hx hb d_M_split_36 rfl (lv_at hl 0 rfl) ?_
        refine va_get (D := D) (ci := 0) (v := .ref (ad 9)) (C := R_M) (T := F_M) (N := 5) hx hb htb iw_M hown hK hP 0 rfl rfl 1 (by decide) (htb _ mw_162) (fun _ h9 => h9) rfl d_M_split_37 ?_
        refine rdV (As := []) (rest := []) (b := ad 9) ⟨hx, hb, hml, hown, htb⟩ (c_N_isFull l D ad kd g z v nl hnl hl2) (cwV (C := R_N) 0 htb (gV tb_good mw_409 mw_410 mw_411 mw_29 mw_412) rfl rfl rfl (by decide +kernel) ⟨Nat.le_of_ble_eq_true rfl, Nat.le_of_ble_eq_true rfl⟩) hP hK (va_recv hK hP (ci := 2) (q0 := 9) rfl rfl) rfl hl.1 rfl (lv_room (Nat.le_of_ble_eq_true rfl)) d_M_split_40 ⟨Nat.zero_le _, Nat.zero_le _⟩ ?_
        refine lv_if_eq (tgt := 56) hx hb d_M_split_43 (by decide) (fun c4 => ?_) (fun c4 => ?_)
        · replace c4 := bI_f c4
          refine lv_iload_n hx hb d_M_split_56 rfl (lv_at hl 2 rfl) ?_
          refine lv_aload_n hx hb d_M_split_57 rfl (lv_at hl 0 rfl) ?_
          refine va_get (D := D) (ci := 0) (v := .ref (ad 9)) (C := R_M) (T := F_M) (N := 5) hx hb htb iw_M hown hK hP 0 rfl rfl 1 (by decide) (htb _ mw_162) (fun _ h9 => h9) rfl d_M_split_58 ?_
          refine va_get (D := D) (ci := 2) (v := .ref (ad 13)) (C := R_N) (T := F_N) (N := 6) hx hb htb iw_N hown hK hP 9 rfl rfl 4 (by decide) (htb _ mw_102) (fun _ h9 => h9) rfl d_M_split_61 ?_
          refine lv_iload_n hx hb d_M_split_64 rfl (lv_at hl 1 rfl) ?_
          refine q_iald hx hb hK hP 13 10 rfl rfl k (by omega) (by decide) d_M_split_65 ?_
          refine lv_icmp_ge (tgt := 91) hx hb d_M_split_66 (by decide) (fun c5 => ?_) (fun c5 => ?_)
          · refine lv_iconst (v := (-1)) hx hb d_M_split_91 (by decide) ?_
            exact hret _ _ _ _ _ (by simp [spR, c1, c2, c3, c4, c5]) (by rw [show spR g nb k w = false by simp [spR, c1, c2, c3, c4, c5]]; exact hP) hS d_M_split_92
          · refine lv_aload_n hx hb d_M_split_69 rfl (lv_at hl 0 rfl) ?_
            refine va_get (D := D) (ci := 0) (v := .ref (ad 1)) (C := R_M) (T := F_M) (N := 5) hx hb htb iw_M hown hK hP 0 rfl rfl 0 (by decide) (htb _ mw_161) (fun _ h9 => h9) rfl d_M_split_70 ?_
            refine lv_iload_n hx hb d_M_split_73 rfl (lv_at hl 1 rfl) ?_
            refine rdV (As := [.int (nI k)]) (rest := []) (b := ad 1) ⟨hx, hb, hml, hown, htb⟩ (c_B_under l D ad kd g z v nb hnb hb6 (nI k)) (cwV (C := R_B) 1 htb (gV tb_good mw_487 mw_488 mw_489 mw_28 mw_490) rfl rfl rfl (by decide +kernel) ⟨Nat.le_of_ble_eq_true rfl, Nat.le_of_ble_eq_true rfl⟩) hP hK (va_recv hK hP (ci := 1) (q0 := 1) rfl rfl) rfl hl.1 rfl (lv_room (Nat.le_of_ble_eq_true rfl)) d_M_split_74 ⟨Nat.zero_le _, Nat.zero_le _⟩ ?_
            refine lv_if_gt (tgt := 91) hx hb d_M_split_77 (by decide) (fun c6 => ?_) (fun c6 => ?_)
            · refine lv_iconst (v := (-1)) hx hb d_M_split_91 (by decide) ?_
              exact hret _ _ _ _ _ (by simp [spR, c1, c2, c3, c4, c5, c6]) (by rw [show spR g nb k w = false by simp [spR, c1, c2, c3, c4, c5, c6]]; exact hP) hS d_M_split_92
            · refine lv_aload_n hx hb d_M_split_80 rfl (lv_at hl 0 rfl) ?_
              refine va_get (D := D) (ci := 0) (v := .ref (ad 1)) (C := R_M) (T := F_M) (N := 5) hx hb htb iw_M hown hK hP 0 rfl rfl 0 (by decide) (htb _ mw_161) (fun _ h9 => h9) rfl d_M_split_81 ?_
              refine lv_iload_n hx hb d_M_split_84 rfl (lv_at hl 1 rfl) ?_
              refine rdV (As := [.int (nI k)]) (rest := []) (b := ad 1) ⟨hx, hb, hml, hown, htb⟩ (c_B_isOrdered l D ad kd g z v k (by omega)) (cwV (C := R_B) 1 htb (gV tb_good mw_469 mw_390 mw_391 mw_28 mw_392) rfl rfl rfl (by decide +kernel) ⟨Nat.le_of_ble_eq_true rfl, Nat.le_of_ble_eq_true rfl⟩) hP hK (va_recv hK hP (ci := 1) (q0 := 1) rfl rfl) rfl hl.1 rfl (lv_room (Nat.le_of_ble_eq_true rfl)) d_M_split_85 ⟨Nat.zero_le _, Nat.zero_le _⟩ ?_
              refine lv_if_eq (tgt := 93) hx hb d_M_split_88 (by decide) (fun c7 => ?_) (fun c7 => ?_)
              · replace c7 := bI_f c7
                refine lv_aload_n hx hb d_M_split_93 rfl (lv_at hl 0 rfl) ?_
                refine va_get (D := D) (ci := 0) (v := .ref (ad 1)) (C := R_M) (T := F_M) (N := 5) hx hb htb iw_M hown hK hP 0 rfl rfl 0 (by decide) (htb _ mw_161) (fun _ h9 => h9) rfl d_M_split_94 ?_
                refine lv_iload_n hx hb d_M_split_97 rfl (lv_at hl 1 rfl) ?_
                refine rdV (As := [.int (nI k)]) (rest := []) (b := ad 1) ⟨hx, hb, hml, hown, htb⟩ (c_B_nextFreeNumber l D ad kd g z v nb hnb hb6 k (by omega)) (cwV (C := R_B) 1 htb (gV tb_good mw_491 mw_492 mw_493 mw_28 mw_494) rfl rfl rfl (by decide +kernel) ⟨Nat.le_of_ble_eq_true rfl, Nat.le_of_ble_eq_true rfl⟩) hP hK (va_recv hK hP (ci := 1) (q0 := 1) rfl rfl) rfl hl.1 rfl (lv_room (Nat.le_of_ble_eq_true rfl)) d_M_split_98 ⟨Nat.zero_le _, Nat.zero_le _⟩ ?_
                refine lv_istore_n (lv' := [(3, .int (nfnL g nb k 60 1)), (0, .ref (ad 0)), (1, .int (nI k)), (2, .int w)]) hx hb d_M_split_101 rfl hl (by decide) rfl (fun ls hl => ?_)
                refine lv_iload_n hx hb d_M_split_102 rfl (lv_at hl 0 rfl) ?_
                refine lv_iconst (v := (-1)) hx hb d_M_split_103 (by decide) ?_
                refine lv_icmp_ne (tgt := 109) hx hb d_M_split_104 (by decide) (fun c8 => ?_) (fun c8 => ?_)
                · refine lv_aload_n hx hb d_M_split_109 rfl (lv_at hl 1 rfl) ?_
                  refine va_get (D := D) (ci := 0) (v := .ref (ad 9)) (C := R_M) (T := F_M) (N := 5) hx hb htb iw_M hown hK hP 0 rfl rfl 1 (by decide) (htb _ mw_162) (fun _ h9 => h9) rfl d_M_split_110 ?_
                  refine lv_iload_n hx hb d_M_split_113 rfl (lv_at hl 2 rfl) ?_
                  refine lv_iload_n hx hb d_M_split_114 rfl (lv_at hl 3 rfl) ?_
                  refine wvV (As := [.int (nI k), .int w]) (rest := []) (b := ad 9) ⟨hx, hb, hml, hown, htb⟩ (c_N_take l D ad kd g z v nl hnl hl2 k (by omega) w) (cwV (C := R_N) 2 htb (gV tb_good mw_497 mw_498 mw_499 mw_29 mw_500) rfl rfl rfl (by decide +kernel) ⟨Nat.le_of_ble_eq_true rfl, Nat.le_of_ble_eq_true rfl⟩) hP hK hD hS hA (va_recv hK hP (ci := 2) (q0 := 9) rfl rfl) rfl hl.1 rfl (lv_room (Nat.le_of_ble_eq_true rfl)) d_M_split_115 ⟨Nat.zero_le _, Nat.zero_le _⟩ (fun H locs hP hS => ?_)
                  have hP : va_P D classes (wA ad kd (takN k nl w g) z v) H := hP
                  have hD : va_D A (wA ad kd (takN k nl w g) z v) := wA_D hD
                  refine lv_aload_n hx hb d_M_split_118 rfl (lv_at hl 1 rfl) ?_
                  refine va_get (D := D) (ci := 0) (v := .ref (ad 1)) (C := R_M) (T := F_M) (N := 5) hx hb htb iw_M hown hK hP 0 rfl rfl 0 (by decide) (htb _ mw_161) (fun _ h9 => h9) rfl d_M_split_119 ?_
                  refine lv_aload_n hx hb d_M_split_122 rfl (lv_at hl 1 rfl) ?_
                  refine va_get (D := D) (ci := 0) (v := .ref (ad 1)) (C := R_M) (T := F_M) (N := 5) hx hb htb iw_M hown hK hP 0 rfl rfl 0 (by decide) (htb _ mw_161) (fun _ h9 => h9) rfl d_M_split_123 ?_
                  refine va_get (D := D) (ci := 1) (v := .ref (ad 2)) (C := R_B) (T := F_B) (N := 8) hx hb htb iw_B hown hK hP 1 rfl rfl 1 (by decide) (htb _ mw_58) (fun _ h9 => h9) rfl d_M_split_126 ?_
                  refine lv_iload_n hx hb d_M_split_129 rfl (lv_at hl 2 rfl) ?_
                  refine q_iald hx hb hK hP 2 0 rfl rfl k (by omega) (by decide) d_M_split_130 ?_
                  refine W.eq (congrArg (fun z => F0 m 131 ls (.int z :: [.ref (ad 1)])) (show ((takN k nl w g) 2 k) = (g 2 k) from (congrFun (takN_at (j := 2) (by decide) (by decide) nl w g) k))) ?_
                  refine lv_iload_n hx hb d_M_split_131 rfl (lv_at hl 0 rfl) ?_
                  refine lv_aload_n hx hb d_M_split_132 rfl (lv_at hl 1 rfl) ?_
                  refine va_get (D := D) (ci := 0) (v := .ref (ad 1)) (C := R_M) (T := F_M) (N := 5) hx hb htb iw_M hown hK hP 0 rfl rfl 0 (by decide) (htb _ mw_161) (fun _ h9 => h9) rfl d_M_split_133 ?_
                  refine va_get (D := D) (ci := 1) (v := .ref (ad 4)) (C := R_B) (T := F_B) (N := 8) hx hb htb iw_B hown hK hP 1 rfl rfl 3 (by decide) (htb _ mw_62) (fun _ h9 => h9) rfl d_M_split_136 ?_
                  refine lv_iload_n hx hb d_M_split_139 rfl (lv_at hl 2 rfl) ?_
                  refine q_iald hx hb hK hP 4 2 rfl rfl k (by omega) (by decide) d_M_split_140 ?_
                  refine W.eq (congrArg (fun z => F0 m 141 ls (.int z :: [.int (nfnL g nb k 60 1), .int (g 2 k), .ref (ad 1)])) (show ((takN k nl w g) 4 k) = (g 4 k) from (congrFun (takN_at (j := 4) (by decide) (by decide) nl w g) k))) ?_
                  refine lv_aload_n hx hb d_M_split_141 rfl (lv_at hl 1 rfl) ?_
                  refine va_get (D := D) (ci := 0) (v := .ref (ad 1)) (C := R_M) (T := F_M) (N := 5) hx hb htb iw_M hown hK hP 0 rfl rfl 0 (by decide) (htb _ mw_161) (fun _ h9 => h9) rfl d_M_split_142 ?_
                  refine va_get (D := D) (ci := 1) (v := .ref (ad 7)) (C := R_B) (T := F_B) (N := 8) hx hb htb iw_B hown hK hP 1 rfl rfl 6 (by decide) (htb _ mw_68) (fun _ h9 => h9) rfl d_M_split_145 ?_
                  refine lv_iload_n hx hb d_M_split_148 rfl (lv_at hl 2 rfl) ?_
                  refine q_iald hx hb hK hP 7 5 rfl rfl k (by omega) (by decide) d_M_split_149 ?_
                  refine W.eq (congrArg (fun z => F0 m 150 ls (.int z :: [.int (g 4 k), .int (nfnL g nb k 60 1), .int (g 2 k), .ref (ad 1)])) (show ((takN k nl w g) 7 k) = (g 7 k) from (congrFun (takN_at (j := 7) (by decide) (by decide) nl w g) k))) ?_
                  refine wrV (As := [.int (g 2 k), .int (nfnL g nb k 60 1), .int (g 4 k), .int (g 7 k)]) (rest := []) (b := ad 1) ⟨hx, hb, hml, hown, htb⟩ (c_B_add l D ad kd (takN k nl w g) z v nb hnb hb6 (by omega) (g 2 k) (nfnL g nb k 60 1) (g 4 k) (g 7 k)) (cwV (C := R_B) 4 htb (gV tb_good mw_397 mw_398 mw_399 mw_28 mw_400) rfl rfl rfl (by decide +kernel) ⟨Nat.le_of_ble_eq_true rfl, Nat.le_of_ble_eq_true rfl⟩) hP hK hD hS hA (va_recv hK hP (ci := 1) (q0 := 1) rfl rfl) rfl hl.1 rfl (lv_room (Nat.le_of_ble_eq_true rfl)) d_M_split_150 ⟨Nat.zero_le _, Nat.zero_le _⟩ (fun H locs hP hS => ?_)
                  have hP : va_P D classes (wA ad kd (addB (takN k nl w g) nb (g 2 k) (nfnL g nb k 60 1) (g 4 k) (g 7 k)) z (upd v 2 (nI nb + 1))) H := hP
                  have hD : va_D A (wA ad kd (addB (takN k nl w g) nb (g 2 k) (nfnL g nb k 60 1) (g 4 k) (g 7 k)) z (upd v 2 (nI nb + 1))) := wA_D hD
                  refine lv_istore (lv' := [(4, .int (nI nb)), (3, .int (nfnL g nb k 60 1)), (0, .ref (ad 0)), (1, .int (nI k)), (2, .int w)]) hx hb d_M_split_153 hl (by decide) rfl (fun ls hl => ?_)
                  refine lv_aload_n hx hb d_M_split_155 rfl (lv_at hl 2 rfl) ?_
                  refine va_get (D := D) (ci := 0) (v := .ref (ad 9)) (C := R_M) (T := F_M) (N := 5) hx hb htb iw_M hown hK hP 0 rfl rfl 1 (by decide) (htb _ mw_162) (fun _ h9 => h9) rfl d_M_split_156 ?_
                  refine lv_iload hx hb d_M_split_159 (lv_at hl 0 rfl) ?_
                  refine lv_iload_n hx hb d_M_split_161 rfl (lv_at hl 4 rfl) ?_
                  refine lv_iconst (v := 0) hx hb d_M_split_162 (by decide) ?_
                  refine wrV (As := [.int (nI nb), .int w, .int 0]) (rest := []) (b := ad 9) ⟨hx, hb, hml, hown, htb⟩ (c_N_add l D ad kd (addB (takN k nl w g) nb (g 2 k) (nfnL g nb k 60 1) (g 4 k) (g 7 k)) z (upd v 2 (nI nb + 1)) nl (show (upd v 2 (nI nb + 1)) 3 = nI nl from hnl) hl2 (by omega) nb (by omega) w 0) (cwV (C := R_N) 3 htb (gV tb_good mw_414 mw_415 mw_416 mw_29 mw_417) rfl rfl rfl (by decide +kernel) ⟨Nat.le_of_ble_eq_true rfl, Nat.le_of_ble_eq_true rfl⟩) hP hK hD hS hA (va_recv hK hP (ci := 2) (q0 := 9) rfl rfl) rfl hl.1 rfl (lv_room (Nat.le_of_ble_eq_true rfl)) d_M_split_163 ⟨Nat.zero_le _, Nat.zero_le _⟩ (fun H locs hP hS => ?_)
                  have hP : va_P D classes (wA ad kd (addN (addB (takN k nl w g) nb (g 2 k) (nfnL g nb k 60 1) (g 4 k) (g 7 k)) nl nb w 0) z (upd (upd v 2 (nI nb + 1)) 3 (nI nl + 1))) H := hP
                  have hD : va_D A (wA ad kd (addN (addB (takN k nl w g) nb (g 2 k) (nfnL g nb k 60 1) (g 4 k) (g 7 k)) nl nb w 0) z (upd (upd v 2 (nI nb + 1)) 3 (nI nl + 1))) := wA_D hD
                  refine lv_pop hx hb d_M_split_166 rfl ?_
                  refine lv_iload hx hb d_M_split_167 (lv_at hl 0 rfl) ?_
                  exact hret _ _ _ _ _ (by simp [spR, c1, c2, c3, c4, c5, c6, c7, c8]) (by rw [show spR g nb k w = true by simp [spR, c1, c2, c3, c4, c5, c6, c7, c8]]; exact hP) hS d_M_split_169
                · refine lv_iconst (v := (-1)) hx hb d_M_split_107 (by decide) ?_
                  exact hret _ _ _ _ _ (by simp [spR, c1, c2, c3, c4, c5, c6, c7, c8]) (by rw [show spR g nb k w = false by simp [spR, c1, c2, c3, c4, c5, c6, c7, c8]]; exact hP) hS d_M_split_108
              · replace c7 := bI_t c7
                refine lv_iconst (v := (-1)) hx hb d_M_split_91 (by decide) ?_
                exact hret _ _ _ _ _ (by simp [spR, c1, c2, c3, c4, c5, c6, c7]) (by rw [show spR g nb k w = false by simp [spR, c1, c2, c3, c4, c5, c6, c7]]; exact hP) hS d_M_split_92
        · replace c4 := bI_t c4
          first | (simp [hin, hw1] at c4; done) | (simp [hin, hw1] at c3; done) | (simp [hin, hw1] at c2; done) | (simp [hin, hw1] at c1; done) | (simp at c4; omega) | (exact absurd c4 (by omega)) | (simp at c3; omega) | (exact absurd c3 (by omega)) | (simp at c2; omega) | (exact absurd c2 (by omega)) | (simp at c1; omega) | (exact absurd c1 (by omega))
    · first | (simp [hin, hw1] at c2; done) | (simp [hin, hw1] at c1; done) | (simp at c2; omega) | (exact absurd c2 (by omega)) | (simp at c1; omega) | (exact absurd c1 (by omega))
set_option maxHeartbeats 4000000 in
set_option maxRecDepth 100000 in
theorem c_M_seen (l : Launch) (D : va_G) (ad : Nat → Nat) (kd : Nat → ClassId) (g : Nat → Nat → Int32) (z : Nat → Int64) (v : Nat → Int32) (nb : Nat) (hnb : v 2 = nI nb) (hb6 : nb ≤ 60) (nx : Nat) (hnx : v 4 = nI nx) (hx6 : nx ≤ 60) (j : Nat) (hj : j < nx) (k : Nat) (hk : k < 14) (hs : ∀ n, k = n + 10 → ¬ pickN (fun b => onX z j (nI b)) (nI n) 60 = -1) : RD l y_M_seen (.code y_M_seen b_M_seen 4 (some .int) :: TB) ({ frames := 2, cells := 0, slots := 0, locals := 46 } : Room) [.ref (ad 0), .int (nI j), .int (nI k)] D classes (wA ad kd g z v) (tA kd) (seeS g z nx j k) := by
  refine rd_of (by decide +kernel) (rfl) (Nat.le_of_ble_eq_true rfl) ?_
  intro p e s m args below meth c Q ls hx hb hml htb hown hP hK hl hret
  have hl : lv_has ls 4 [(0, .ref (ad 0)), (1, .int (nI j)), (2, .int (nI k))] := hl
  have hin : inN nx (nI j) = true := inN_nI hj (by omega)
  have hk0 : ¬ nI k < 0 := nI_pos (by omega)
  have hk13 : nI k ≤ 13 := nI_le (b := 13) (by omega) (by decide)
  refine lv_aload_n hx hb d_M_seen_0 rfl (lv_at hl 0 rfl) ?_
  refine va_get (D := D) (ci := 0) (v := .ref (ad 15)) (C := R_M) (T := F_M) (N := 5) hx hb htb iw_M hown hK hP 0 rfl rfl 2 (by decide) (htb _ mw_163) (fun _ h9 => h9) rfl d_M_seen_1 ?_
  refine lv_iload_n hx hb d_M_seen_4 rfl (lv_at hl 1 rfl) ?_
  refine rdV (As := [.int (nI j)]) (rest := []) (b := ad 15) ⟨hx, hb, hml, hown, htb⟩ (c_X_has l D ad kd g z v nx hnx hx6 (nI j)) (cwV (C := R_X) 1 htb (gV tb_good mw_181 mw_182 mw_183 mw_30 mw_184) rfl rfl rfl (by decide +kernel) ⟨Nat.le_of_ble_eq_true rfl, Nat.le_of_ble_eq_true rfl⟩) hP hK (va_recv hK hP (ci := 3) (q0 := 15) rfl rfl) rfl hl.1 rfl (lv_room (Nat.le_of_ble_eq_true rfl)) d_M_seen_5 ⟨Nat.zero_le _, Nat.zero_le _⟩ ?_
  refine lv_if_eq (tgt := 21) hx hb d_M_seen_8 (by decide) (fun c1 => ?_) (fun c1 => ?_)
  · replace c1 := bI_f c1
    first | (simp [hin, hk0] at c1; done) | (simp at c1; omega) | (exact absurd c1 (by omega))
  · replace c1 := bI_t c1
    refine lv_iload_n hx hb d_M_seen_11 rfl (lv_at hl 2 rfl) ?_
    refine lv_if_lt (tgt := 21) hx hb d_M_seen_12 (by decide) (fun c2 => ?_) (fun c2 => ?_)
    · first | (simp [hin, hk0] at c2; done) | (simp [hin, hk0] at c1; done) | (simp at c2; omega) | (exact absurd c2 (by omega)) | (simp at c1; omega) | (exact absurd c1 (by omega))
    · refine lv_iload_n hx hb d_M_seen_15 rfl (lv_at hl 2 rfl) ?_
      refine lv_bipush (v := 13) hx hb d_M_seen_16 (by decide) ?_
      refine q_icmp_le (a := k) (b := 13) (tgt := 31) hx hb (by omega) (by omega) d_M_seen_18 (by decide) (fun c3 => ?_) (fun c3 => ?_)
      · refine lv_iload_n hx hb d_M_seen_31 rfl (lv_at hl 2 rfl) ?_
        rcases (show k = 0 ∨ k = 1 ∨ k = 2 ∨ k = 3 ∨ k = 4 ∨ k = 5 ∨ k = 6 ∨ k = 7 ∨ k = 8 ∨ k = 9 ∨ k = 10 ∨ k = 11 ∨ k = 12 ∨ k = 13 by omega) with rfl | rfl | rfl | rfl | rfl | rfl | rfl | rfl | rfl | rfl | rfl | rfl | rfl | rfl
        · refine lv_tableIn (tgt := 88) hx hb d_M_seen_32 (by decide) (by decide) rfl (by decide) ?_
          refine lv_aload_n hx hb d_M_seen_88 rfl (lv_at hl 0 rfl) ?_
          refine va_get (D := D) (ci := 0) (v := .ref (ad 15)) (C := R_M) (T := F_M) (N := 5) hx hb htb iw_M hown hK hP 0 rfl rfl 2 (by decide) (htb _ mw_163) (fun _ h9 => h9) rfl d_M_seen_89 ?_
          refine va_get (D := D) (ci := 3) (v := .ref (ad 16)) (C := R_X) (T := F_X) (N := 9) hx hb htb iw_X hown hK hP 15 rfl rfl 1 (by decide) (htb _ mw_127) (fun _ h9 => h9) rfl d_M_seen_92 ?_
          refine lv_iload_n hx hb d_M_seen_95 rfl (lv_at hl 1 rfl) ?_
          refine q_iald hx hb hK hP 16 12 rfl rfl j (by omega) (by decide) d_M_seen_96 ?_
          exact hret _ _ _ rfl d_M_seen_97
        · refine lv_tableIn (tgt := 98) hx hb d_M_seen_32 (by decide) (by decide) rfl (by decide) ?_
          refine lv_aload_n hx hb d_M_seen_98 rfl (lv_at hl 0 rfl) ?_
          refine va_get (D := D) (ci := 0) (v := .ref (ad 15)) (C := R_M) (T := F_M) (N := 5) hx hb htb iw_M hown hK hP 0 rfl rfl 2 (by decide) (htb _ mw_163) (fun _ h9 => h9) rfl d_M_seen_99 ?_
          refine va_get (D := D) (ci := 3) (v := .ref (ad 17)) (C := R_X) (T := F_X) (N := 9) hx hb htb iw_X hown hK hP 15 rfl rfl 2 (by decide) (htb _ mw_129) (fun _ h9 => h9) rfl d_M_seen_102 ?_
          refine lv_iload_n hx hb d_M_seen_105 rfl (lv_at hl 1 rfl) ?_
          refine q_iald hx hb hK hP 17 13 rfl rfl j (by omega) (by decide) d_M_seen_106 ?_
          exact hret _ _ _ rfl d_M_seen_107
        · refine lv_tableIn (tgt := 108) hx hb d_M_seen_32 (by decide) (by decide) rfl (by decide) ?_
          refine lv_aload_n hx hb d_M_seen_108 rfl (lv_at hl 0 rfl) ?_
          refine va_get (D := D) (ci := 0) (v := .ref (ad 15)) (C := R_M) (T := F_M) (N := 5) hx hb htb iw_M hown hK hP 0 rfl rfl 2 (by decide) (htb _ mw_163) (fun _ h9 => h9) rfl d_M_seen_109 ?_
          refine va_get (D := D) (ci := 3) (v := .ref (ad 18)) (C := R_X) (T := F_X) (N := 9) hx hb htb iw_X hown hK hP 15 rfl rfl 3 (by decide) (htb _ mw_131) (fun _ h9 => h9) rfl d_M_seen_112 ?_
          refine lv_iload_n hx hb d_M_seen_115 rfl (lv_at hl 1 rfl) ?_
          refine q_iald hx hb hK hP 18 14 rfl rfl j (by omega) (by decide) d_M_seen_116 ?_
          exact hret _ _ _ rfl d_M_seen_117
        · refine lv_tableIn (tgt := 118) hx hb d_M_seen_32 (by decide) (by decide) rfl (by decide) ?_
          refine lv_aload_n hx hb d_M_seen_118 rfl (lv_at hl 0 rfl) ?_
          refine va_get (D := D) (ci := 0) (v := .ref (ad 15)) (C := R_M) (T := F_M) (N := 5) hx hb htb iw_M hown hK hP 0 rfl rfl 2 (by decide) (htb _ mw_163) (fun _ h9 => h9) rfl d_M_seen_119 ?_
          refine va_get (D := D) (ci := 3) (v := .ref (ad 19)) (C := R_X) (T := F_X) (N := 9) hx hb htb iw_X hown hK hP 15 rfl rfl 4 (by decide) (htb _ mw_133) (fun _ h9 => h9) rfl d_M_seen_122 ?_
          refine lv_iload_n hx hb d_M_seen_125 rfl (lv_at hl 1 rfl) ?_
          refine q_iald hx hb hK hP 19 15 rfl rfl j (by omega) (by decide) d_M_seen_126 ?_
          exact hret _ _ _ rfl d_M_seen_127
        · refine lv_tableIn (tgt := 128) hx hb d_M_seen_32 (by decide) (by decide) rfl (by decide) ?_
          refine lv_aload_n hx hb d_M_seen_128 rfl (lv_at hl 0 rfl) ?_
          refine va_get (D := D) (ci := 0) (v := .ref (ad 15)) (C := R_M) (T := F_M) (N := 5) hx hb htb iw_M hown hK hP 0 rfl rfl 2 (by decide) (htb _ mw_163) (fun _ h9 => h9) rfl d_M_seen_129 ?_
          refine lv_iload_n hx hb d_M_seen_132 rfl (lv_at hl 1 rfl) ?_
          refine rdV (As := [.int (nI j)]) (rest := []) (b := ad 15) ⟨hx, hb, hml, hown, htb⟩ (c_X_billsOf l D ad kd g z v j (by omega)) (cwV (C := R_X) 1 htb (gV tb_good mw_193 mw_194 mw_195 mw_30 mw_196) rfl rfl rfl (by decide +kernel) ⟨Nat.le_of_ble_eq_true rfl, Nat.le_of_ble_eq_true rfl⟩) hP hK (va_recv hK hP (ci := 3) (q0 := 15) rfl rfl) rfl hl.1 rfl (lv_room (Nat.le_of_ble_eq_true rfl)) d_M_seen_133 ⟨Nat.zero_le _, Nat.zero_le _⟩ ?_
          exact hret _ _ _ rfl d_M_seen_136
        · refine lv_tableIn (tgt := 137) hx hb d_M_seen_32 (by decide) (by decide) rfl (by decide) ?_
          refine lv_aload_n hx hb d_M_seen_137 rfl (lv_at hl 0 rfl) ?_
          refine va_get (D := D) (ci := 0) (v := .ref (ad 15)) (C := R_M) (T := F_M) (N := 5) hx hb htb iw_M hown hK hP 0 rfl rfl 2 (by decide) (htb _ mw_163) (fun _ h9 => h9) rfl d_M_seen_138 ?_
          refine lv_iload_n hx hb d_M_seen_141 rfl (lv_at hl 1 rfl) ?_
          refine rdV (As := [.int (nI j)]) (rest := []) (b := ad 15) ⟨hx, hb, hml, hown, htb⟩ (c_X_isWaiting l D ad kd g z v j (by omega)) (cwV (C := R_X) 1 htb (gV tb_good mw_247 mw_248 mw_249 mw_30 mw_250) rfl rfl rfl (by decide +kernel) ⟨Nat.le_of_ble_eq_true rfl, Nat.le_of_ble_eq_true rfl⟩) hP hK (va_recv hK hP (ci := 3) (q0 := 15) rfl rfl) rfl hl.1 rfl (lv_room (Nat.le_of_ble_eq_true rfl)) d_M_seen_142 ⟨Nat.zero_le _, Nat.zero_le _⟩ ?_
          refine lv_if_eq (tgt := 152) hx hb d_M_seen_145 (by decide) (fun c4 => ?_) (fun c4 => ?_)
          · replace c4 := bI_f c4
            refine lv_iconst (v := 0) hx hb d_M_seen_152 (by decide) ?_
            exact hret _ _ _ (by simp [seeS, bI, c1, c2, c3, c4]) d_M_seen_153
          · replace c4 := bI_t c4
            refine lv_iconst (v := 1) hx hb d_M_seen_148 (by decide) ?_
            refine lv_goto (tgt := 153) hx hb d_M_seen_149 (by decide) ?_
            exact hret _ _ _ (by simp [seeS, bI, c1, c2, c3, c4]) d_M_seen_153
        · refine lv_tableIn (tgt := 154) hx hb d_M_seen_32 (by decide) (by decide) rfl (by decide) ?_
          refine lv_aload_n hx hb d_M_seen_154 rfl (lv_at hl 0 rfl) ?_
          refine va_get (D := D) (ci := 0) (v := .ref (ad 15)) (C := R_M) (T := F_M) (N := 5) hx hb htb iw_M hown hK hP 0 rfl rfl 2 (by decide) (htb _ mw_163) (fun _ h9 => h9) rfl d_M_seen_155 ?_
          refine va_get (D := D) (ci := 3) (v := .ref (ad 21)) (C := R_X) (T := F_X) (N := 9) hx hb htb iw_X hown hK hP 15 rfl rfl 6 (by decide) (htb _ mw_136) (fun _ h9 => h9) rfl d_M_seen_158 ?_
          refine lv_iload_n hx hb d_M_seen_161 rfl (lv_at hl 1 rfl) ?_
          refine q_iald hx hb hK hP 21 17 rfl rfl j (by omega) (by decide) d_M_seen_162 ?_
          exact hret _ _ _ rfl d_M_seen_163
        · refine lv_tableIn (tgt := 164) hx hb d_M_seen_32 (by decide) (by decide) rfl (by decide) ?_
          refine lv_aload_n hx hb d_M_seen_164 rfl (lv_at hl 0 rfl) ?_
          refine va_get (D := D) (ci := 0) (v := .ref (ad 15)) (C := R_M) (T := F_M) (N := 5) hx hb htb iw_M hown hK hP 0 rfl rfl 2 (by decide) (htb _ mw_163) (fun _ h9 => h9) rfl d_M_seen_165 ?_
          refine va_get (D := D) (ci := 3) (v := .ref (ad 22)) (C := R_X) (T := F_X) (N := 9) hx hb htb iw_X hown hK hP 15 rfl rfl 7 (by decide) (htb _ mw_138) (fun _ h9 => h9) rfl d_M_seen_168 ?_
          refine lv_iload_n hx hb d_M_seen_171 rfl (lv_at hl 1 rfl) ?_
          refine q_iald hx hb hK hP 22 18 rfl rfl j (by omega) (by decide) d_M_seen_172 ?_
          exact hret _ _ _ rfl d_M_seen_173
        · refine lv_tableIn (tgt := 174) hx hb d_M_seen_32 (by decide) (by decide) rfl (by decide) ?_
          refine lv_aload_n hx hb d_M_seen_174 rfl (lv_at hl 0 rfl) ?_
          refine va_get (D := D) (ci := 0) (v := .ref (ad 15)) (C := R_M) (T := F_M) (N := 5) hx hb htb iw_M hown hK hP 0 rfl rfl 2 (by decide) (htb _ mw_163) (fun _ h9 => h9) rfl d_M_seen_175 ?_
          refine lv_iload_n hx hb d_M_seen_178 rfl (lv_at hl 1 rfl) ?_
          refine rdV (As := [.int (nI j)]) (rest := []) (b := ad 15) ⟨hx, hb, hml, hown, htb⟩ (c_X_first l D ad kd g z v nx hnx hx6 j (by omega)) (cwV (C := R_X) 1 htb (gV tb_good mw_238 mw_239 mw_240 mw_30 mw_241) rfl rfl rfl (by decide +kernel) ⟨Nat.le_of_ble_eq_true rfl, Nat.le_of_ble_eq_true rfl⟩) hP hK (va_recv hK hP (ci := 3) (q0 := 15) rfl rfl) rfl hl.1 rfl (lv_room (Nat.le_of_ble_eq_true rfl)) d_M_seen_179 ⟨Nat.zero_le _, Nat.zero_le _⟩ ?_
          exact hret _ _ _ rfl d_M_seen_182
        · refine lv_tableIn (tgt := 183) hx hb d_M_seen_32 (by decide) (by decide) rfl (by decide) ?_
          refine lv_aload_n hx hb d_M_seen_183 rfl (lv_at hl 0 rfl) ?_
          refine va_get (D := D) (ci := 0) (v := .ref (ad 15)) (C := R_M) (T := F_M) (N := 5) hx hb htb iw_M hown hK hP 0 rfl rfl 2 (by decide) (htb _ mw_163) (fun _ h9 => h9) rfl d_M_seen_184 ?_
          refine lv_iload_n hx hb d_M_seen_187 rfl (lv_at hl 1 rfl) ?_
          refine rdV (As := [.int (nI j)]) (rest := []) (b := ad 15) ⟨hx, hb, hml, hown, htb⟩ (c_X_weightSoFar l D ad kd g z v nx hnx hx6 j (by omega)) (cwV (C := R_X) 1 htb (gV tb_good mw_556 mw_557 mw_558 mw_30 mw_559) rfl rfl rfl (by decide +kernel) ⟨Nat.le_of_ble_eq_true rfl, Nat.le_of_ble_eq_true rfl⟩) hP hK (va_recv hK hP (ci := 3) (q0 := 15) rfl rfl) rfl hl.1 rfl (lv_room (Nat.le_of_ble_eq_true rfl)) d_M_seen_188 ⟨Nat.zero_le _, Nat.zero_le _⟩ ?_
          exact hret _ _ _ rfl d_M_seen_191
        · refine lv_tableOut (tgt := 192) hx hb d_M_seen_32 (by decide) (by decide) ?_
          refine lv_aload_n hx hb d_M_seen_192 rfl (lv_at hl 0 rfl) ?_
          refine va_get (D := D) (ci := 0) (v := .ref (ad 15)) (C := R_M) (T := F_M) (N := 5) hx hb htb iw_M hown hK hP 0 rfl rfl 2 (by decide) (htb _ mw_163) (fun _ h9 => h9) rfl d_M_seen_193 ?_
          refine lv_iload_n hx hb d_M_seen_196 rfl (lv_at hl 1 rfl) ?_
          refine lv_iload_n hx hb d_M_seen_197 rfl (lv_at hl 2 rfl) ?_
          refine lv_bipush (v := 10) hx hb d_M_seen_198 (by decide) ?_
          refine lv_isub hx hb d_M_seen_200 ?_
          refine W.eq (congrArg (fun z => F0 m 201 ls (.int z :: [.int (nI j), .ref (ad 15)])) (show ((nI 10) - 10) = (nI 0) from (by decide))) ?_
          refine rdV (As := [.int (nI j), .int (nI 0)]) (rest := []) (b := ad 15) ⟨hx, hb, hml, hown, htb⟩ (c_X_billAt l D ad kd g z v j (by omega) (nI 0)) (cwV (C := R_X) 2 htb (gV tb_good mw_560 mw_561 mw_562 mw_30 mw_563) rfl rfl rfl (by decide +kernel) ⟨Nat.le_of_ble_eq_true rfl, Nat.le_of_ble_eq_true rfl⟩) hP hK (va_recv hK hP (ci := 3) (q0 := 15) rfl rfl) rfl hl.1 rfl (lv_room (Nat.le_of_ble_eq_true rfl)) d_M_seen_201 ⟨Nat.zero_le _, Nat.zero_le _⟩ ?_
          refine lv_istore_n (lv' := [(3, .int (pickN (fun b => onX z j (nI b)) (nI 0) 60)), (0, .ref (ad 0)), (1, .int (nI j)), (2, .int (nI 10))]) hx hb d_M_seen_204 rfl hl (by decide) rfl (fun ls hl => ?_)
          refine lv_iload_n hx hb d_M_seen_205 rfl (lv_at hl 0 rfl) ?_
          refine lv_iconst (v := (-1)) hx hb d_M_seen_206 (by decide) ?_
          refine lv_icmp_ne (tgt := 220) hx hb d_M_seen_207 (by decide) (fun c5 => ?_) (fun c5 => ?_)
          · refine lv_iload_n hx hb d_M_seen_220 rfl (lv_at hl 0 rfl) ?_
            exact hret _ _ _ rfl d_M_seen_221
          · exact absurd c5 (hs 0 rfl)
        · refine lv_tableOut (tgt := 192) hx hb d_M_seen_32 (by decide) (by decide) ?_
          refine lv_aload_n hx hb d_M_seen_192 rfl (lv_at hl 0 rfl) ?_
          refine va_get (D := D) (ci := 0) (v := .ref (ad 15)) (C := R_M) (T := F_M) (N := 5) hx hb htb iw_M hown hK hP 0 rfl rfl 2 (by decide) (htb _ mw_163) (fun _ h9 => h9) rfl d_M_seen_193 ?_
          refine lv_iload_n hx hb d_M_seen_196 rfl (lv_at hl 1 rfl) ?_
          refine lv_iload_n hx hb d_M_seen_197 rfl (lv_at hl 2 rfl) ?_
          refine lv_bipush (v := 10) hx hb d_M_seen_198 (by decide) ?_
          refine lv_isub hx hb d_M_seen_200 ?_
          refine W.eq (congrArg (fun z => F0 m 201 ls (.int z :: [.int (nI j), .ref (ad 15)])) (show ((nI 11) - 10) = (nI 1) from (by decide))) ?_
          refine rdV (As := [.int (nI j), .int (nI 1)]) (rest := []) (b := ad 15) ⟨hx, hb, hml, hown, htb⟩ (c_X_billAt l D ad kd g z v j (by omega) (nI 1)) (cwV (C := R_X) 2 htb (gV tb_good mw_560 mw_561 mw_562 mw_30 mw_563) rfl rfl rfl (by decide +kernel) ⟨Nat.le_of_ble_eq_true rfl, Nat.le_of_ble_eq_true rfl⟩) hP hK (va_recv hK hP (ci := 3) (q0 := 15) rfl rfl) rfl hl.1 rfl (lv_room (Nat.le_of_ble_eq_true rfl)) d_M_seen_201 ⟨Nat.zero_le _, Nat.zero_le _⟩ ?_
          refine lv_istore_n (lv' := [(3, .int (pickN (fun b => onX z j (nI b)) (nI 1) 60)), (0, .ref (ad 0)), (1, .int (nI j)), (2, .int (nI 11))]) hx hb d_M_seen_204 rfl hl (by decide) rfl (fun ls hl => ?_)
          refine lv_iload_n hx hb d_M_seen_205 rfl (lv_at hl 0 rfl) ?_
          refine lv_iconst (v := (-1)) hx hb d_M_seen_206 (by decide) ?_
          refine lv_icmp_ne (tgt := 220) hx hb d_M_seen_207 (by decide) (fun c6 => ?_) (fun c6 => ?_)
          · refine lv_iload_n hx hb d_M_seen_220 rfl (lv_at hl 0 rfl) ?_
            exact hret _ _ _ rfl d_M_seen_221
          · exact absurd c6 (hs 1 rfl)
        · refine lv_tableOut (tgt := 192) hx hb d_M_seen_32 (by decide) (by decide) ?_
          refine lv_aload_n hx hb d_M_seen_192 rfl (lv_at hl 0 rfl) ?_
          refine va_get (D := D) (ci := 0) (v := .ref (ad 15)) (C := R_M) (T := F_M) (N := 5) hx hb htb iw_M hown hK hP 0 rfl rfl 2 (by decide) (htb _ mw_163) (fun _ h9 => h9) rfl d_M_seen_193 ?_
          refine lv_iload_n hx hb d_M_seen_196 rfl (lv_at hl 1 rfl) ?_
          refine lv_iload_n hx hb d_M_seen_197 rfl (lv_at hl 2 rfl) ?_
          refine lv_bipush (v := 10) hx hb d_M_seen_198 (by decide) ?_
          refine lv_isub hx hb d_M_seen_200 ?_
          refine W.eq (congrArg (fun z => F0 m 201 ls (.int z :: [.int (nI j), .ref (ad 15)])) (show ((nI 12) - 10) = (nI 2) from (by decide))) ?_
          refine rdV (As := [.int (nI j), .int (nI 2)]) (rest := []) (b := ad 15) ⟨hx, hb, hml, hown, htb⟩ (c_X_billAt l D ad kd g z v j (by omega) (nI 2)) (cwV (C := R_X) 2 htb (gV tb_good mw_560 mw_561 mw_562 mw_30 mw_563) rfl rfl rfl (by decide +kernel) ⟨Nat.le_of_ble_eq_true rfl, Nat.le_of_ble_eq_true rfl⟩) hP hK (va_recv hK hP (ci := 3) (q0 := 15) rfl rfl) rfl hl.1 rfl (lv_room (Nat.le_of_ble_eq_true rfl)) d_M_seen_201 ⟨Nat.zero_le _, Nat.zero_le _⟩ ?_
          refine lv_istore_n (lv' := [(3, .int (pickN (fun b => onX z j (nI b)) (nI 2) 60)), (0, .ref (ad 0)), (1, .int (nI j)), (2, .int (nI 12))]) hx hb d_M_seen_204 rfl hl (by decide) rfl (fun ls hl => ?_)
          refine lv_iload_n hx hb d_M_seen_205 rfl (lv_at hl 0 rfl) ?_
          refine lv_iconst (v := (-1)) hx hb d_M_seen_206 (by decide) ?_
          refine lv_icmp_ne (tgt := 220) hx hb d_M_seen_207 (by decide) (fun c7 => ?_) (fun c7 => ?_)
          · refine lv_iload_n hx hb d_M_seen_220 rfl (lv_at hl 0 rfl) ?_
            exact hret _ _ _ rfl d_M_seen_221
          · exact absurd c7 (hs 2 rfl)
        · refine lv_tableOut (tgt := 192) hx hb d_M_seen_32 (by decide) (by decide) ?_
          refine lv_aload_n hx hb d_M_seen_192 rfl (lv_at hl 0 rfl) ?_
          refine va_get (D := D) (ci := 0) (v := .ref (ad 15)) (C := R_M) (T := F_M) (N := 5) hx hb htb iw_M hown hK hP 0 rfl rfl 2 (by decide) (htb _ mw_163) (fun _ h9 => h9) rfl d_M_seen_193 ?_
          refine lv_iload_n hx hb d_M_seen_196 rfl (lv_at hl 1 rfl) ?_
          refine lv_iload_n hx hb d_M_seen_197 rfl (lv_at hl 2 rfl) ?_
          refine lv_bipush (v := 10) hx hb d_M_seen_198 (by decide) ?_
          refine lv_isub hx hb d_M_seen_200 ?_
          refine W.eq (congrArg (fun z => F0 m 201 ls (.int z :: [.int (nI j), .ref (ad 15)])) (show ((nI 13) - 10) = (nI 3) from (by decide))) ?_
          refine rdV (As := [.int (nI j), .int (nI 3)]) (rest := []) (b := ad 15) ⟨hx, hb, hml, hown, htb⟩ (c_X_billAt l D ad kd g z v j (by omega) (nI 3)) (cwV (C := R_X) 2 htb (gV tb_good mw_560 mw_561 mw_562 mw_30 mw_563) rfl rfl rfl (by decide +kernel) ⟨Nat.le_of_ble_eq_true rfl, Nat.le_of_ble_eq_true rfl⟩) hP hK (va_recv hK hP (ci := 3) (q0 := 15) rfl rfl) rfl hl.1 rfl (lv_room (Nat.le_of_ble_eq_true rfl)) d_M_seen_201 ⟨Nat.zero_le _, Nat.zero_le _⟩ ?_
          refine lv_istore_n (lv' := [(3, .int (pickN (fun b => onX z j (nI b)) (nI 3) 60)), (0, .ref (ad 0)), (1, .int (nI j)), (2, .int (nI 13))]) hx hb d_M_seen_204 rfl hl (by decide) rfl (fun ls hl => ?_)
          refine lv_iload_n hx hb d_M_seen_205 rfl (lv_at hl 0 rfl) ?_
          refine lv_iconst (v := (-1)) hx hb d_M_seen_206 (by decide) ?_
          refine lv_icmp_ne (tgt := 220) hx hb d_M_seen_207 (by decide) (fun c8 => ?_) (fun c8 => ?_)
          · refine lv_iload_n hx hb d_M_seen_220 rfl (lv_at hl 0 rfl) ?_
            exact hret _ _ _ rfl d_M_seen_221
          · exact absurd c8 (hs 3 rfl)
      · first | (simp [hin, hk0] at c3; done) | (simp [hin, hk0] at c2; done) | (simp [hin, hk0] at c1; done) | (simp at c3; omega) | (exact absurd c3 (by omega)) | (simp at c2; omega) | (exact absurd c2 (by omega)) | (simp at c1; omega) | (exact absurd c1 (by omega))
set_option maxHeartbeats 4000000 in
set_option maxRecDepth 100000 in
theorem c_M_like (l : Launch) (D : va_G) (ad : Nat → Nat) (kd : Nat → ClassId) (g : Nat → Nat → Int32) (z : Nat → Int64) (v : Nat → Int32) (nb : Nat) (hnb : v 2 = nI nb) (hb6 : nb ≤ 60) (hnum : ∀ i, i < nb → ∃ n, n < 100000000 ∧ g 3 i = nI n) (x : Int32) (n0 : Nat) (y : Int32) (hc : isCallS x = true) (hn0 : n0 < 100000000) : RD l y_M_like (.code y_M_like b_M_like 6 (some .int) :: TB) ({ frames := 1, cells := 0, slots := 0, locals := 24 } : Room) [.ref (ad 0), .int x, .int (nI n0), .int y] D classes (wA ad kd g z v) (tA kd) (pickN (likP g x n0) y nb) := by
  refine rd_of (by decide +kernel) (rfl) (Nat.le_of_ble_eq_true rfl) ?_
  intro p e s m args below meth c Q ls hx hb hml htb hown hP hK hl hret
  have hl : lv_has ls 6 [(0, .ref (ad 0)), (1, .int x), (2, .int (nI n0)), (3, .int y)] := hl
  have hn : isNumS (nI n0) = true := by
    unfold isNumS
    rw [if_neg (nI_pos (by omega))]
    exact if_neg (nI_nlt (a := 99999999) (b := n0) (by omega) (by decide))
  refine lv_iload_n hx hb d_M_like_0 rfl (lv_at hl 1 rfl) ?_
  refine rdS (As := [.int x]) (rest := []) ⟨hx, hb, hml, hown, htb⟩ (c_M_isCall l D (wA ad kd g z v) (tA kd) x) (va_cwS 1 htb (gS tb_good mw_227 mw_228 mw_27 mw_229) rfl rfl rfl (by decide +kernel) ⟨Nat.le_of_ble_eq_true rfl, Nat.le_of_ble_eq_true rfl⟩) hP hK rfl hl.1 rfl (lv_room (Nat.le_of_ble_eq_true rfl)) d_M_like_1 ⟨Nat.zero_le _, Nat.zero_le _⟩ ?_
  refine lv_if_eq (tgt := 14) hx hb d_M_like_4 (by decide) (fun c1 => ?_) (fun c1 => ?_)
  · replace c1 := bI_f c1
    first | (simp [hc, hn] at c1; done) | (simp at c1; omega) | (exact absurd c1 (by omega))
  · replace c1 := bI_t c1
    refine lv_iload_n hx hb d_M_like_7 rfl (lv_at hl 2 rfl) ?_
    refine rdS (As := [.int (nI n0)]) (rest := []) ⟨hx, hb, hml, hown, htb⟩ (c_M_isNumber l D (wA ad kd g z v) (tA kd) (nI n0)) (va_cwS 1 htb (gS tb_good mw_291 mw_292 mw_27 mw_293) rfl rfl rfl (by decide +kernel) ⟨Nat.le_of_ble_eq_true rfl, Nat.le_of_ble_eq_true rfl⟩) hP hK rfl hl.1 rfl (lv_room (Nat.le_of_ble_eq_true rfl)) d_M_like_8 ⟨Nat.zero_le _, Nat.zero_le _⟩ ?_
    refine lv_if_ne (tgt := 24) hx hb d_M_like_11 (by decide) (fun c2 => ?_) (fun c2 => ?_)
    · replace c2 := bI_t c2
      refine lv_iconst (v := 0) hx hb d_M_like_24 (by decide) ?_
      refine lv_istore (lv' := [(4, .int 0), (0, .ref (ad 0)), (1, .int x), (2, .int (nI n0)), (3, .int y)]) hx hb d_M_like_25 hl (by decide) rfl (fun ls hl => ?_)
      refine lv_iconst (v := 0) hx hb d_M_like_27 (by decide) ?_
      refine lv_istore (lv' := [(5, .int 0), (4, .int 0), (0, .ref (ad 0)), (1, .int x), (2, .int (nI n0)), (3, .int y)]) hx hb d_M_like_28 hl (by decide) rfl (fun ls hl => ?_)
      have lp30 : ∀ (n : Nat) (i : Nat) (f : Nat), i ≤ nb → nb + 1 ≤ i + n → f = cntN (likP g x n0) i → pickN (likP g x n0) y i = -1 → ∀ (ls : Array Slot), lv_has ls 6 [(0, .ref (ad 0)), (1, .int x), (2, .int (nI n0)), (3, .int y), (4, .int (nI f)), (5, .int (nI i))] → W p l e ({ frames := 1, cells := 0, slots := 0, locals := 24 } : Room) s m args below meth c s.heap [] 0 0 Q (F0 m 30 ls []) := by
        intro n
        induction n with
        | zero => intro i f hi hm hf hp ls hl; exact absurd hm (by omega)
        | succ n ih =>
          intro i f hi hm hf hp ls hl
          refine lv_iload hx hb d_M_like_30 (lv_at hl 5 rfl) ?_
          refine lv_aload_n hx hb d_M_like_32 rfl (lv_at hl 0 rfl) ?_
          refine va_get (D := D) (ci := 0) (v := .ref (ad 1)) (C := R_M) (T := F_M) (N := 5) hx hb htb iw_M hown hK hP 0 rfl rfl 0 (by decide) (htb _ mw_161) (fun _ h9 => h9) rfl d_M_like_33 ?_
          refine va_get (D := D) (ci := 1) (v := .int (nI nb)) (C := R_B) (T := F_B) (N := 8) hx hb htb iw_B hown hK hP 1 rfl rfl 0 (by decide) (htb _ mw_56) (fun _ h9 => h9) (congrArg (fun x => some (Value.int x)) hnb) d_M_like_36 ?_
          refine q_icmp_ge (a := i) (b := nb) (tgt := 91) hx hb (by omega) (by omega) d_M_like_39 (by decide) (fun c3 => ?_) (fun c3 => ?_)
          · refine lv_iconst (v := (-1)) hx hb d_M_like_91 (by decide) ?_
            exact hret _ _ _ (by rw [show nb = i by omega, hp]) d_M_like_92
          · refine lv_aload_n hx hb d_M_like_42 rfl (lv_at hl 0 rfl) ?_
            refine va_get (D := D) (ci := 0) (v := .ref (ad 1)) (C := R_M) (T := F_M) (N := 5) hx hb htb iw_M hown hK hP 0 rfl rfl 0 (by decide) (htb _ mw_161) (fun _ h9 => h9) rfl d_M_like_43 ?_
            refine va_get (D := D) (ci := 1) (v := .ref (ad 2)) (C := R_B) (T := F_B) (N := 8) hx hb htb iw_B hown hK hP 1 rfl rfl 1 (by decide) (htb _ mw_58) (fun _ h9 => h9) rfl d_M_like_46 ?_
            refine lv_iload hx hb d_M_like_49 (lv_at hl 5 rfl) ?_
            refine q_iald hx hb hK hP 2 0 rfl rfl i (by omega) (by decide) d_M_like_51 ?_
            refine lv_iload_n hx hb d_M_like_52 rfl (lv_at hl 1 rfl) ?_
            refine lv_icmp_ne (tgt := 85) hx hb d_M_like_53 (by decide) (fun c4 => ?_) (fun c4 => ?_)
            · have hlk : likP g x n0 i = false := by simp [likP, c4]
              refine lv_iinc (v := (nI (i + 1))) (lv' := [(5, .int (nI (i + 1))), (0, .ref (ad 0)), (1, .int x), (2, .int (nI n0)), (3, .int y), (4, .int (nI f))]) hx hb d_M_like_85 hl (k := 5) rfl (q_inc _) (by decide) rfl (fun ls hl => ?_)
              refine lv_goto (tgt := 30) hx hb d_M_like_88 (by decide) ?_
              exact ih (i + 1) f (by omega) (by omega) (by rw [cntN_f (P := (likP g x n0)) hlk, hf]) (pickN_miss hp hlk) _ (lv_sub hl [1, 2, 3, 4, 5, 0] rfl)
            · obtain ⟨nn, hnn, enn⟩ := hnum i (by omega)
              have hix : ix (g 3 i) = nn := by rw [enn, ix_nI (by omega)]
              refine lv_aload_n hx hb d_M_like_56 rfl (lv_at hl 0 rfl) ?_
              refine va_get (D := D) (ci := 0) (v := .ref (ad 1)) (C := R_M) (T := F_M) (N := 5) hx hb htb iw_M hown hK hP 0 rfl rfl 0 (by decide) (htb _ mw_161) (fun _ h9 => h9) rfl d_M_like_57 ?_
              refine va_get (D := D) (ci := 1) (v := .ref (ad 3)) (C := R_B) (T := F_B) (N := 8) hx hb htb iw_B hown hK hP 1 rfl rfl 2 (by decide) (htb _ mw_60) (fun _ h9 => h9) rfl d_M_like_60 ?_
              refine lv_iload hx hb d_M_like_63 (lv_at hl 5 rfl) ?_
              refine q_iald hx hb hK hP 3 1 rfl rfl i (by omega) (by decide) d_M_like_65 ?_
              refine W.eq (congrArg (fun z => F0 m 66 ls (.int z :: [])) (show (g 3 i) = (nI nn) from enn)) ?_
              refine lv_iload_n hx hb d_M_like_66 rfl (lv_at hl 2 rfl) ?_
              refine rdS (As := [.int (nI nn), .int (nI n0)]) (rest := []) ⟨hx, hb, hml, hown, htb⟩ (c_M_areAlike l D (wA ad kd g z v) (tA kd) nn n0 (by omega) (by omega)) (va_cwS 2 htb (gS tb_good mw_587 mw_588 mw_27 mw_589) rfl rfl rfl (by decide +kernel) ⟨Nat.le_of_ble_eq_true rfl, Nat.le_of_ble_eq_true rfl⟩) hP hK rfl hl.1 rfl (lv_room (Nat.le_of_ble_eq_true rfl)) d_M_like_67 ⟨Nat.zero_le _, Nat.zero_le _⟩ ?_
              refine lv_if_eq (tgt := 85) hx hb d_M_like_70 (by decide) (fun c5 => ?_) (fun c5 => ?_)
              · replace c5 := bI_f c5
                have hlk : likP g x n0 i = false := by simp [likP, c4, hix, c5]
                refine lv_iinc (v := (nI (i + 1))) (lv' := [(5, .int (nI (i + 1))), (0, .ref (ad 0)), (1, .int x), (2, .int (nI n0)), (3, .int y), (4, .int (nI f))]) hx hb d_M_like_85 hl (k := 5) rfl (q_inc _) (by decide) rfl (fun ls hl => ?_)
                refine lv_goto (tgt := 30) hx hb d_M_like_88 (by decide) ?_
                exact ih (i + 1) f (by omega) (by omega) (by rw [cntN_f (P := (likP g x n0)) hlk, hf]) (pickN_miss hp hlk) _ (lv_sub hl [1, 2, 3, 4, 5, 0] rfl)
              · replace c5 := bI_t c5
                have hlk : likP g x n0 i = true := by simp [likP, c4, hix, c5]
                refine lv_iload hx hb d_M_like_73 (lv_at hl 4 rfl) ?_
                refine lv_iload_n hx hb d_M_like_75 rfl (lv_at hl 3 rfl) ?_
                refine lv_icmp_ne (tgt := 82) hx hb d_M_like_76 (by decide) (fun c6 => ?_) (fun c6 => ?_)
                · refine lv_iinc (v := (nI (f + 1))) (lv' := [(4, .int (nI (f + 1))), (0, .ref (ad 0)), (1, .int x), (2, .int (nI n0)), (3, .int y), (5, .int (nI i))]) hx hb d_M_like_82 hl (k := 4) rfl (q_inc _) (by decide) rfl (fun ls hl => ?_)
                  refine lv_iinc (v := (nI (i + 1))) (lv' := [(5, .int (nI (i + 1))), (4, .int (nI (f + 1))), (0, .ref (ad 0)), (1, .int x), (2, .int (nI n0)), (3, .int y)]) hx hb d_M_like_85 hl (k := 5) rfl (q_inc _) (by decide) rfl (fun ls hl => ?_)
                  refine lv_goto (tgt := 30) hx hb d_M_like_88 (by decide) ?_
                  exact ih (i + 1) (f + 1) (by omega) (by omega) (by rw [cntN_t (P := (likP g x n0)) hlk, hf]) (pickN_pass hp (by rw [← hf]; assumption)) _ (lv_sub hl [2, 3, 4, 5, 1, 0] rfl)
                · refine lv_iload hx hb d_M_like_79 (lv_at hl 5 rfl) ?_
                  exact hret _ _ _ (by rw [pickN_hit (i := i) (by omega) hp hlk (by rw [← hf]; assumption) (by omega)]) d_M_like_81
      exact lp30 (nb + 1) 0 0 (Nat.zero_le _) (by omega) rfl rfl _ (lv_sub hl [2, 3, 4, 5, 1, 0] rfl)
    · replace c2 := bI_f c2
      first | (simp [hc, hn] at c2; done) | (simp [hc, hn] at c1; done) | (simp at c2; omega) | (exact absurd c2 (by omega)) | (simp at c1; omega) | (exact absurd c1 (by omega))
end
section
/-! The frame: what a callee's world leaves of the rest -/
section FR
variable {D : va_G} {cl : List vw_C} {A : Nat → Prop} {w w' wr w0 : va_W} {H H1 : Heap}
theorem fr_off (hPr : va_P D cl wr H) (hDD : va_D A (wr ++ w0)) {k : Nat} {q : Nat × va_E} (hq : wr[k]? = some q) : q.1 < H.size ∧ ¬ va_A w0 H.size q.1 := by
  have hl := (hPr k q hq).lt
  refine ⟨hl, fun h => ?_⟩
  rcases h with ⟨k2, e, h⟩ | h
  · have hk : k < wr.length := (List.getElem?_eq_some_iff.mp hq).1
    have h1 : (wr ++ w0)[k]? = some q := by rw [List.getElem?_append_left hk]; exact hq
    have h2 : (wr ++ w0)[wr.length + k2]? = some (q.1, e) := by rw [List.getElem?_append_right (Nat.le_add_right _ _), Nat.add_sub_cancel_left]; exact h
    have := hDD.1 k (wr.length + k2) q (q.1, e) h1 h2 rfl
    omega
  · omega
theorem fr_keep (hPr : va_P D cl wr H) (hDD : va_D A (wr ++ w0)) (hk : ∀ q : Nat, q < H.size → ¬ va_A w0 H.size q → H1[q]? = H[q]?) : va_P D cl wr H1 :=
  hPr.kept (fun k q hq => hk q.1 (fr_off hPr hDD hq).1 (fr_off hPr hDD hq).2)
theorem fr_l (hDD : va_D A (wr ++ w0)) : va_D A wr := by
  refine ⟨fun i j p q hp hq => ?_, fun k q hq => ?_⟩
  · exact hDD.1 i j p q (by rw [List.getElem?_append_left (List.getElem?_eq_some_iff.mp hp).1]; exact hp) (by rw [List.getElem?_append_left (List.getElem?_eq_some_iff.mp hq).1]; exact hq)
  · exact hDD.2 k q (by rw [List.getElem?_append_left (List.getElem?_eq_some_iff.mp hq).1]; exact hq)
theorem fr_at {k : Nat} {q : Nat × va_E} (hq : w0[k]? = some q) : (wr ++ w0)[wr.length + k]? = some q := by
  rw [List.getElem?_append_right (Nat.le_add_right _ _), Nat.add_sub_cancel_left]; exact hq
theorem fr_r (hDD : va_D A (wr ++ w0)) : va_D A w0 := by
  refine ⟨fun i j p q hp hq hpq => ?_, fun k q hq => ?_⟩
  · have := hDD.1 _ _ p q (fr_at hp) (fr_at hq) hpq
    omega
  · exact hDD.2 _ q (fr_at hq)
theorem fr_D {w1 : va_W} (hPr : va_P D cl wr H) (hDD : va_D A (wr ++ w0)) (hF : ∀ q, va_A w0 H.size q → A q) (hD1 : va_D (va_A w0 H.size) w1) : va_D A (wr ++ w1) :=
  va_D.app (fr_l hDD) (hD1.weaken (fun k q _ h => hF q.1 h)) (fun i j x y hx hy hxy => (fr_off hPr hDD hx).2 (by rw [hxy]; exact hD1.2 j y hy))
theorem fr_fst {w1 : va_W} (e : w1.map (·.1) = w0.map (·.1)) (hDD : va_D A (wr ++ w0)) : va_D A (wr ++ w1) :=
  D_fst (w := wr ++ w0) (by rw [List.map_append, List.map_append, e]) hDD
end FR
section FR2
variable {p : Program} {l : Launch} {e : Env} {R : Room} {s : State} {m : MethodId} {args : Array Value} {below : List Frame} {meth : Method} {c : Code} {H : Heap} {locs : List Loc} {cells slots : Nat} {Q : State → Prop}
variable {y : MethodName} {rm : Room} {As rest st0 : List Value} {D : va_G} {cl : List vw_C} {w w' w0 wr : va_W} {wf : AK → va_W} {tf : AK → List (ClassId × FieldType)} {tys : List (ClassId × FieldType)} {cc bytes : ByteArray} {maxL nL n index b pc mc ms : Nat} {r : Int32} {ret : Option FieldType} {own C : String} {ls : Array Slot} {A : Nat → Prop} {H0 : Heap}
theorem gI (h5 : Cond.code y bytes maxL ret ∈ TB) : GoodIn TB (.code y bytes maxL ret :: TB) := by
  intro w hw
  have hm : w ∈ TB := by
    rcases List.mem_cons.mp hw with rfl | h
    · exact h5
    · exact h
  exact ⟨hm, good_of_word (tb_good w hm)⟩
theorem ctI (S : CallFix p m c cc nL s args TB own) (hM : CT l y (.code y bytes maxL none :: TB) rm (.ref b :: As) D cl w0 wf tf mc ms) (cw : CallB R s args own index y bytes maxL none (.code y bytes maxL none :: TB) rm mc ms n ∧ y.name = "<init>" ∧ (Cond.instanceMethod y).before args s = true)
    (hP0 : va_P D cl w0 H) (hPr : va_P D cl wr H) (hDD : va_D A (wr ++ w0)) (hK : va_K D cl [] s) (hS : va_S A H0 H locs) (hA : ∀ q, H0.size ≤ q → A q)
    (hn : As.length = n) (hls : ls.size = nL) (hst : st0 = As.reverse ++ .ref b :: rest) (hroom : 2 * (F0 m pc ls st0).monitorRoom + (rest.map fun v => v.category).sum ≤ 8) (hdg : decode cc pc = .ok (.invokespecial index, 3)) (hf : cells + mc ≤ R.cells ∧ slots + ms ≤ R.slots)
    (kk : ∀ (u : AK) (H1 : Heap) (locs1 : List Loc), va_P D cl (wr ++ wf u) H1 → va_D A (wr ++ wf u) → va_K D cl (tf u) s → va_S A H0 H1 locs1 → W p l e R s m args below meth c H1 locs1 (cells + mc) (slots + ms) Q (F0 m (pc + 3) ls rest)) : W p l e R s m args below meth c H locs cells slots Q (F0 m pc ls st0) := by
  have hF := free_W (w := w0) hS (fr_r hDD) hA
  refine va_callv (va_runI (As := As) (rest := rest) (b := b) S (hM H.size) cw ⟨fb_W, fun U hU hW => ⟨rfl, by rw [hU], by rw [hU]; exact hP0, va_K.moved hW.alike hK, (fr_r hDD).weaken (fun _ _ _ _ => trivial)⟩⟩ rfl hn hls hst hroom hdg hf) hS (fun q _ h => hF q h) hF (fun u t H1 locs1 ht hvm hw hB hz hk hS1 => ?_)
  obtain ⟨hP1, hK1, hD1⟩ := hB
  rw [ht] at hP1
  exact kk u H1 locs1 ((fr_keep hPr hDD hk).app hP1) (fr_D hPr hDD hF hD1) (va_K.moved hvm.symm hK1) hS1
theorem wrVF (S : CallFix p m c cc nL s args TB own) (hM : WRi l y (.code y bytes maxL ret :: TB) rm (.ref b :: As) D cl w w' tys r) (cw : CallW R s args own C index y bytes maxL ret (.code y bytes maxL ret :: TB) rm 0 0 n) (hP : va_P D cl w H) (hPr : va_P D cl wr H) (hDD : va_D A (wr ++ w)) (hfst : w'.map (·.1) = w.map (·.1)) (hK : va_K D cl tys s) (hS : va_S A H0 H locs) (hA : ∀ q, H0.size ≤ q → A q)
    (hrv : ∃ cell : Cell, H[b]? = some cell ∧ cell.vm.isStatics = false ∧ s.vm.findClass C = some cell.cls) (hn : As.length = n) (hls : ls.size = nL) (hst : st0 = As.reverse ++ .ref b :: rest) (hroom : 2 * (F0 m pc ls st0).monitorRoom + (rest.map fun v => v.category).sum ≤ 8) (hdg : decode cc pc = .ok (.invokevirtual index, 3)) (hf : cells ≤ R.cells ∧ slots ≤ R.slots)
    (kk : ∀ (H1 : Heap) (locs1 : List Loc), va_P D cl w' H1 → va_P D cl wr H1 → va_D A (wr ++ w') → va_S A H0 H1 locs1 → W p l e R s m args below meth c H1 locs1 cells slots Q (F0 m (pc + 3) ls (.int r :: rest))) : W p l e R s m args below meth c H locs cells slots Q (F0 m pc ls st0) := by
  have hD := fr_r hDD
  refine va_calli (va_runV (As := As) (rest := rest) (b := b) S (hM H.size) cw ⟨fb_W, hrv, fun U hU hW => ⟨rfl, by rw [hU], by rw [hU]; exact hP, va_K.moved hW.alike hK, hD.weaken (fun _ _ _ _ => trivial)⟩⟩ rfl hn hls hst hroom hdg hf) hS (fun q _ h => free_W hS hD hA q h) (free_W hS hD hA) (fun r' u t H1 locs1 ht hvm hw hB hz hk hS1 => ?_)
  subst hw
  exact kk H1 locs1 (by rw [← ht]; exact hB) (fr_keep hPr hDD hk) (fr_fst hfst hDD) hS1
end FR2
def ad0 (h0 : Nat) (f : Nat → Nat) : Nat → Nat := fun j => if j = 0 then h0 else f j
def wM0 (h0 : Nat) (u : AK) : va_W := wA (ad0 h0 u.1) u.2 (fun _ _ => 0) (fun _ => 0) (fun _ => 0)
def tM0 (u : AK) : List (ClassId × FieldType) := tA u.2
set_option maxHeartbeats 4000000 in
set_option maxRecDepth 100000 in
theorem c_M_init (l : Launch) (D : va_G) (h0 : Nat) : CT l y_M_init (.code y_M_init b_M_init 1 none :: TB) ({ frames := 2, cells := 23, slots := 1503, locals := 32 } : Room) [.ref h0] D classes [(h0, .inr (0, [.null, .null, .null, .int 0, .int 0]))] (wM0 h0) tM0 23 1503 := by
  refine ct_of (by decide +kernel) rfl (Nat.le_of_ble_eq_true rfl) ?_
  intro p e s m args below meth c Q ls A hx hb hml htb hown hin hP hK hD hS hA hl hret
  have hl : lv_has ls 1 [(0, .ref h0)] := hl
  have hK0 : va_K D classes [] s := hK
  refine lv_aload_n hx hb d_M_init_0 rfl (lv_at hl 0 rfl) ?_
  refine W.objInit hx hb hown (htb _ mw_46) (htb _ mw_47) (htb _ mw_48) rfl (by rw [hml]; exact hl.1) rfl d_M_init_1 (Nat.le_of_ble_eq_true rfl) (Nat.le_of_ble_eq_true rfl) ?_
  refine W.eq (g2 := F0 m 4 ls []) rfl ?_
  refine lv_aload_n hx hb d_M_init_4 rfl (lv_at hl 0 rfl) ?_
  refine va_new (ci := 1) (fs := [.int 0, .null, .null, .null, .null, .null, .null, .null]) (C := R_B) (T := F_B) (N := 8) hx hb htb iw_B t_B t_B_ok hown (htb _ mw_49) (htb _ mw_50) (htb _ mw_28) hK0 hP hD hS hA rfl (fun j hj => by rcases (show j = 0 ∨ j = 1 ∨ j = 2 ∨ j = 3 ∨ j = 4 ∨ j = 5 ∨ j = 6 ∨ j = 7 by omega) with rfl | rfl | rfl | rfl | rfl | rfl | rfl | rfl <;> rfl) (Nat.le_of_ble_eq_true rfl) (Nat.le_of_ble_eq_true rfl) d_M_init_5 (fun q5 H hP hD hS => ?_)
  have hP : va_P D classes (([(h0, .inr (0, [.null, .null, .null, .int 0, .int 0]))]) ++ [(q5, .inr (1, [.int 0, .null, .null, .null, .null, .null, .null, .null]))]) H := hP
  have hD : va_D A (([(h0, .inr (0, [.null, .null, .null, .int 0, .int 0]))]) ++ [(q5, .inr (1, [.int 0, .null, .null, .null, .null, .null, .null, .null]))]) := hD
  refine lv_dup hx hb d_M_init_8 rfl ?_
  have hPl : va_P D classes ([(h0, .inr (0, [.null, .null, .null, .int 0, .int 0]))]) H := fun k z h => hP k z (by rw [List.getElem?_append_left (List.getElem?_eq_some_iff.mp h).1]; exact h)
  have hPn : va_P D classes [(q5, .inr (1, [.int 0, .null, .null, .null, .null, .null, .null, .null]))] H := fun k z h => hP _ z (fr_at (wr := ([(h0, .inr (0, [.null, .null, .null, .int 0, .int 0]))])) h)
  refine ctI (As := []) (rest := [.ref q5, .ref h0]) (b := q5) ⟨hx, hb, hml, hown, htb⟩ (c_B_init l D q5) (cwI 0 htb (gI mw_53) rfl rfl rfl (htb _ mw_28) (htb _ mw_51) (htb _ mw_52) rfl (by decide +kernel) ⟨Nat.le_of_ble_eq_true rfl, Nat.le_of_ble_eq_true rfl⟩) hPn hPl hD hK0 hS hA rfl hl.1 rfl (lv_room (Nat.le_of_ble_eq_true rfl)) d_M_init_9 ⟨Nat.le_of_ble_eq_true rfl, Nat.le_of_ble_eq_true rfl⟩ (fun uB H locs hP hD hKB hS => ?_)
  refine va_putF (D := D) (ci := 0) (v := .ref q5) (ty := .object "BillMatch$Bills") (C := R_M) (T := F_M) (N := 5) hx hb htb iw_M t_M t_M_ok n_M hown hK0 hP hD hS 0 rfl rfl 0 (by decide) (htb _ mw_161) (fun _ h9 => h9) rfl hin rfl (by decide +kernel) rfl rfl (Nat.le_of_ble_eq_true rfl) d_M_init_12 (fun H locs hP hD hS => ?_)
  have hP : va_P D classes ([(h0, .inr (0, [.ref q5, .null, .null, .int 0, .int 0]))] ++ w0_B q5 uB) H := hP
  have hD : va_D A ([(h0, .inr (0, [.ref q5, .null, .null, .int 0, .int 0]))] ++ w0_B q5 uB) := hD
  refine lv_aload_n hx hb d_M_init_15 rfl (lv_at hl 0 rfl) ?_
  refine va_new (ci := 2) (fs := [.int 0, .null, .null, .null, .null, .null]) (C := R_N) (T := F_N) (N := 6) hx hb htb iw_N t_N t_N_ok hown (htb _ mw_89) (htb _ mw_90) (htb _ mw_29) hK0 hP hD hS hA rfl (fun j hj => by rcases (show j = 0 ∨ j = 1 ∨ j = 2 ∨ j = 3 ∨ j = 4 ∨ j = 5 by omega) with rfl | rfl | rfl | rfl | rfl | rfl <;> rfl) (Nat.le_of_ble_eq_true rfl) (Nat.le_of_ble_eq_true rfl) d_M_init_16 (fun q16 H hP hD hS => ?_)
  have hP : va_P D classes (([(h0, .inr (0, [.ref q5, .null, .null, .int 0, .int 0]))] ++ w0_B q5 uB) ++ [(q16, .inr (2, [.int 0, .null, .null, .null, .null, .null]))]) H := hP
  have hD : va_D A (([(h0, .inr (0, [.ref q5, .null, .null, .int 0, .int 0]))] ++ w0_B q5 uB) ++ [(q16, .inr (2, [.int 0, .null, .null, .null, .null, .null]))]) := hD
  refine lv_dup hx hb d_M_init_19 rfl ?_
  have hPl : va_P D classes ([(h0, .inr (0, [.ref q5, .null, .null, .int 0, .int 0]))] ++ w0_B q5 uB) H := fun k z h => hP k z (by rw [List.getElem?_append_left (List.getElem?_eq_some_iff.mp h).1]; exact h)
  have hPn : va_P D classes [(q16, .inr (2, [.int 0, .null, .null, .null, .null, .null]))] H := fun k z h => hP _ z (fr_at (wr := ([(h0, .inr (0, [.ref q5, .null, .null, .int 0, .int 0]))] ++ w0_B q5 uB)) h)
  refine ctI (As := []) (rest := [.ref q16, .ref h0]) (b := q16) ⟨hx, hb, hml, hown, htb⟩ (c_N_init l D q16) (cwI 0 htb (gI mw_93) rfl rfl rfl (htb _ mw_29) (htb _ mw_91) (htb _ mw_92) rfl (by decide +kernel) ⟨Nat.le_of_ble_eq_true rfl, Nat.le_of_ble_eq_true rfl⟩) hPn hPl hD hK0 hS hA rfl hl.1 rfl (lv_room (Nat.le_of_ble_eq_true rfl)) d_M_init_20 ⟨Nat.le_of_ble_eq_true rfl, Nat.le_of_ble_eq_true rfl⟩ (fun uN H locs hP hD hKN hS => ?_)
  refine va_putF (D := D) (ci := 0) (v := .ref q16) (ty := .object "BillMatch$Lines") (C := R_M) (T := F_M) (N := 5) hx hb htb iw_M t_M t_M_ok n_M hown hK0 hP hD hS 0 rfl rfl 1 (by decide) (htb _ mw_162) (fun _ h9 => h9) rfl hin rfl (by decide +kernel) rfl rfl (Nat.le_of_ble_eq_true rfl) d_M_init_23 (fun H locs hP hD hS => ?_)
  have hP : va_P D classes ([(h0, .inr (0, [.ref q5, .ref q16, .null, .int 0, .int 0]))] ++ w0_B q5 uB ++ w0_N q16 uN) H := hP
  have hD : va_D A ([(h0, .inr (0, [.ref q5, .ref q16, .null, .int 0, .int 0]))] ++ w0_B q5 uB ++ w0_N q16 uN) := hD
  refine lv_aload_n hx hb d_M_init_26 rfl (lv_at hl 0 rfl) ?_
  refine va_new (ci := 3) (fs := [.int 0, .null, .null, .null, .null, .null, .null, .null, .null]) (C := R_X) (T := F_X) (N := 9) hx hb htb iw_X t_X t_X_ok hown (htb _ mw_118) (htb _ mw_119) (htb _ mw_30) hK0 hP hD hS hA rfl (fun j hj => by rcases (show j = 0 ∨ j = 1 ∨ j = 2 ∨ j = 3 ∨ j = 4 ∨ j = 5 ∨ j = 6 ∨ j = 7 ∨ j = 8 by omega) with rfl | rfl | rfl | rfl | rfl | rfl | rfl | rfl | rfl <;> rfl) (Nat.le_of_ble_eq_true rfl) (Nat.le_of_ble_eq_true rfl) d_M_init_27 (fun q27 H hP hD hS => ?_)
  have hP : va_P D classes (([(h0, .inr (0, [.ref q5, .ref q16, .null, .int 0, .int 0]))] ++ w0_B q5 uB ++ w0_N q16 uN) ++ [(q27, .inr (3, [.int 0, .null, .null, .null, .null, .null, .null, .null, .null]))]) H := hP
  have hD : va_D A (([(h0, .inr (0, [.ref q5, .ref q16, .null, .int 0, .int 0]))] ++ w0_B q5 uB ++ w0_N q16 uN) ++ [(q27, .inr (3, [.int 0, .null, .null, .null, .null, .null, .null, .null, .null]))]) := hD
  refine lv_dup hx hb d_M_init_30 rfl ?_
  have hPl : va_P D classes ([(h0, .inr (0, [.ref q5, .ref q16, .null, .int 0, .int 0]))] ++ w0_B q5 uB ++ w0_N q16 uN) H := fun k z h => hP k z (by rw [List.getElem?_append_left (List.getElem?_eq_some_iff.mp h).1]; exact h)
  have hPn : va_P D classes [(q27, .inr (3, [.int 0, .null, .null, .null, .null, .null, .null, .null, .null]))] H := fun k z h => hP _ z (fr_at (wr := ([(h0, .inr (0, [.ref q5, .ref q16, .null, .int 0, .int 0]))] ++ w0_B q5 uB ++ w0_N q16 uN)) h)
  refine ctI (As := []) (rest := [.ref q27, .ref h0]) (b := q27) ⟨hx, hb, hml, hown, htb⟩ (c_X_init l D q27) (cwI 0 htb (gI mw_122) rfl rfl rfl (htb _ mw_30) (htb _ mw_120) (htb _ mw_121) rfl (by decide +kernel) ⟨Nat.le_of_ble_eq_true rfl, Nat.le_of_ble_eq_true rfl⟩) hPn hPl hD hK0 hS hA rfl hl.1 rfl (lv_room (Nat.le_of_ble_eq_true rfl)) d_M_init_31 ⟨Nat.le_of_ble_eq_true rfl, Nat.le_of_ble_eq_true rfl⟩ (fun uX H locs hP hD hKX hS => ?_)
  refine va_putF (D := D) (ci := 0) (v := .ref q27) (ty := .object "BillMatch$Boxes") (C := R_M) (T := F_M) (N := 5) hx hb htb iw_M t_M t_M_ok n_M hown hK0 hP hD hS 0 rfl rfl 2 (by decide) (htb _ mw_163) (fun _ h9 => h9) rfl hin rfl (by decide +kernel) rfl rfl (Nat.le_of_ble_eq_true rfl) d_M_init_34 (fun H locs hP hD hS => ?_)
  have hP : va_P D classes ([(h0, .inr (0, [.ref q5, .ref q16, .ref q27, .int 0, .int 0]))] ++ w0_B q5 uB ++ w0_N q16 uN ++ w0_X q27 uX) H := hP
  have hD : va_D A ([(h0, .inr (0, [.ref q5, .ref q16, .ref q27, .int 0, .int 0]))] ++ w0_B q5 uB ++ w0_N q16 uN ++ w0_X q27 uX) := hD
  refine lv_aload_n hx hb d_M_init_37 rfl (lv_at hl 0 rfl) ?_
  refine lv_iconst (v := 0) hx hb d_M_init_38 (by decide) ?_
  refine va_put (D := D) (ci := 0) (v := .int 0) (ty := .int) (C := R_M) (T := F_M) (N := 5) hx hb htb iw_M t_M t_M_ok n_M hown hK0 hP hD hS 0 rfl rfl 3 (by decide) (htb _ mw_164) (fun _ h9 => h9) rfl (by decide +kernel) rfl rfl (Nat.le_of_ble_eq_true rfl) d_M_init_39 (fun H locs hP hD hS => ?_)
  have hP : va_P D classes ([(h0, .inr (0, [.ref q5, .ref q16, .ref q27, .int 0, .int 0]))] ++ w0_B q5 uB ++ w0_N q16 uN ++ w0_X q27 uX) H := hP
  have hD : va_D A ([(h0, .inr (0, [.ref q5, .ref q16, .ref q27, .int 0, .int 0]))] ++ w0_B q5 uB ++ w0_N q16 uN ++ w0_X q27 uX) := hD
  refine lv_aload_n hx hb d_M_init_42 rfl (lv_at hl 0 rfl) ?_
  refine lv_iconst (v := 0) hx hb d_M_init_43 (by decide) ?_
  refine va_put (D := D) (ci := 0) (v := .int 0) (ty := .int) (C := R_M) (T := F_M) (N := 5) hx hb htb iw_M t_M t_M_ok n_M hown hK0 hP hD hS 0 rfl rfl 4 (by decide) (htb _ mw_165) (fun _ h9 => h9) rfl (by decide +kernel) rfl rfl (Nat.le_of_ble_eq_true rfl) d_M_init_44 (fun H locs hP hD hS => ?_)
  have hP : va_P D classes ([(h0, .inr (0, [.ref q5, .ref q16, .ref q27, .int 0, .int 0]))] ++ w0_B q5 uB ++ w0_N q16 uN ++ w0_X q27 uX) H := hP
  have hD : va_D A ([(h0, .inr (0, [.ref q5, .ref q16, .ref q27, .int 0, .int 0]))] ++ w0_B q5 uB ++ w0_N q16 uN ++ w0_X q27 uX) := hD
  have hKa : va_K D classes (t0_B uB ++ t0_N uN ++ t0_X uX) s := (hKB.app hKN).app hKX
  exact hret ((fun j => if j = 1 then q5 else if j < 9 then uB.1 j else if j = 9 then q16 else if j < 15 then uN.1 j else if j = 15 then q27 else uX.1 j), (fun j => if j < 9 then uB.2 j else if j < 15 then uN.2 j else uX.2 j)) _ _ _ _ _ _ hP hKa hD hS (Nat.le_of_ble_eq_true rfl) (Nat.le_of_ble_eq_true rfl) d_M_init_47
end
