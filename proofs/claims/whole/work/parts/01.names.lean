-- ===== PART A: goes FIRST, ahead of the names: the tables' words, and 'selects' of the private methods out of them =====
/-- a private method of a class that the tables say can be made, by its rows of tables_1 -/
def lw_okq (q : MethodName × Nat) : Prop := (q.1.cls ≠ "java/lang/invoke/MethodHandle" ∧ q.1.cls ≠ "java/lang/invoke/VarHandle") ∧ Cond.instantiable q.1.cls q.2 ∈ tables_1 ∧ Cond.privateMethod q.1 ∈ tables_1 ∧ Cond.instanceMethod q.1 ∈ tables_1
theorem lw_p0 : lw_okq (⟨"BillMatch", "hasArrived", "(I)Z"⟩, 5) := ⟨⟨by decide +kernel, by decide +kernel⟩, List.mem_of_getElem? (i := 16) (by decide +kernel), List.mem_of_getElem? (i := 205) (by decide +kernel), List.mem_of_getElem? (i := 206) (by decide +kernel)⟩
theorem lw_p1 : lw_okq (⟨"BillMatch", "mastersThatDiffer", "()I"⟩, 5) := ⟨⟨by decide +kernel, by decide +kernel⟩, List.mem_of_getElem? (i := 16) (by decide +kernel), List.mem_of_getElem? (i := 245) (by decide +kernel), List.mem_of_getElem? (i := 246) (by decide +kernel)⟩
theorem lw_p2 : lw_okq (⟨"BillMatch", "someOneDiffers", "(I)Z"⟩, 5) := ⟨⟨by decide +kernel, by decide +kernel⟩, List.mem_of_getElem? (i := 16) (by decide +kernel), List.mem_of_getElem? (i := 249) (by decide +kernel), List.mem_of_getElem? (i := 250) (by decide +kernel)⟩
theorem lw_p3 : lw_okq (⟨"BillMatch", "difference", "(I)I"⟩, 5) := ⟨⟨by decide +kernel, by decide +kernel⟩, List.mem_of_getElem? (i := 16) (by decide +kernel), List.mem_of_getElem? (i := 253) (by decide +kernel), List.mem_of_getElem? (i := 254) (by decide +kernel)⟩
theorem lw_p4 : lw_okq (⟨"java/lang/Throwable", "fillInStackTrace", "(I)Ljava/lang/Throwable;"⟩, 6) := ⟨⟨by decide +kernel, by decide +kernel⟩, List.mem_of_getElem? (i := 309) (by decide +kernel), List.mem_of_getElem? (i := 307) (by decide +kernel), List.mem_of_getElem? (i := 308) (by decide +kernel)⟩
theorem lw_p5 : lw_okq (⟨"BillMatchModel", "numbered", "(II)I"⟩, 22) := ⟨⟨by decide +kernel, by decide +kernel⟩, List.mem_of_getElem? (i := 565) (by decide +kernel), List.mem_of_getElem? (i := 651) (by decide +kernel), List.mem_of_getElem? (i := 652) (by decide +kernel)⟩
theorem lw_p6 : lw_okq (⟨"BillMatchModel", "isBill", "(I)Z"⟩, 22) := ⟨⟨by decide +kernel, by decide +kernel⟩, List.mem_of_getElem? (i := 565) (by decide +kernel), List.mem_of_getElem? (i := 655) (by decide +kernel), List.mem_of_getElem? (i := 656) (by decide +kernel)⟩
theorem lw_p7 : lw_okq (⟨"BillMatchModel", "depthOf", "(I)I"⟩, 22) := ⟨⟨by decide +kernel, by decide +kernel⟩, List.mem_of_getElem? (i := 565) (by decide +kernel), List.mem_of_getElem? (i := 659) (by decide +kernel), List.mem_of_getElem? (i := 660) (by decide +kernel)⟩
theorem lw_p8 : lw_okq (⟨"BillMatchModel", "make", "(III)I"⟩, 22) := ⟨⟨by decide +kernel, by decide +kernel⟩, List.mem_of_getElem? (i := 565) (by decide +kernel), List.mem_of_getElem? (i := 663) (by decide +kernel), List.mem_of_getElem? (i := 664) (by decide +kernel)⟩
theorem lw_p9 : lw_okq (⟨"BillMatchModel", "add", "(III)I"⟩, 22) := ⟨⟨by decide +kernel, by decide +kernel⟩, List.mem_of_getElem? (i := 565) (by decide +kernel), List.mem_of_getElem? (i := 672) (by decide +kernel), List.mem_of_getElem? (i := 673) (by decide +kernel)⟩
theorem lw_p10 : lw_okq (⟨"BillMatchModel", "linesOf", "(I)I"⟩, 22) := ⟨⟨by decide +kernel, by decide +kernel⟩, List.mem_of_getElem? (i := 565) (by decide +kernel), List.mem_of_getElem? (i := 676) (by decide +kernel), List.mem_of_getElem? (i := 677) (by decide +kernel)⟩
theorem lw_p11 : lw_okq (⟨"BillMatchModel", "isBox", "(I)Z"⟩, 22) := ⟨⟨by decide +kernel, by decide +kernel⟩, List.mem_of_getElem? (i := 565) (by decide +kernel), List.mem_of_getElem? (i := 688) (by decide +kernel), List.mem_of_getElem? (i := 689) (by decide +kernel)⟩
theorem lw_p12 : lw_okq (⟨"BillMatchModel", "stands", "(II)Z"⟩, 22) := ⟨⟨by decide +kernel, by decide +kernel⟩, List.mem_of_getElem? (i := 565) (by decide +kernel), List.mem_of_getElem? (i := 692) (by decide +kernel), List.mem_of_getElem? (i := 693) (by decide +kernel)⟩
theorem lw_p13 : lw_okq (⟨"BillMatchModel", "billsOf", "(I)I"⟩, 22) := ⟨⟨by decide +kernel, by decide +kernel⟩, List.mem_of_getElem? (i := 565) (by decide +kernel), List.mem_of_getElem? (i := 696) (by decide +kernel), List.mem_of_getElem? (i := 697) (by decide +kernel)⟩
theorem lw_p14 : lw_okq (⟨"BillMatchModel", "lineAt", "(II)I"⟩, 22) := ⟨⟨by decide +kernel, by decide +kernel⟩, List.mem_of_getElem? (i := 565) (by decide +kernel), List.mem_of_getElem? (i := 712) (by decide +kernel), List.mem_of_getElem? (i := 713) (by decide +kernel)⟩
theorem lw_p15 : lw_okq (⟨"BillMatchModel", "weightOf", "(I)I"⟩, 22) := ⟨⟨by decide +kernel, by decide +kernel⟩, List.mem_of_getElem? (i := 565) (by decide +kernel), List.mem_of_getElem? (i := 731) (by decide +kernel), List.mem_of_getElem? (i := 732) (by decide +kernel)⟩
def lw_privs_1 : List (MethodName × Nat) := [(⟨"BillMatch", "hasArrived", "(I)Z"⟩, 5), (⟨"BillMatch", "mastersThatDiffer", "()I"⟩, 5), (⟨"BillMatch", "someOneDiffers", "(I)Z"⟩, 5), (⟨"BillMatch", "difference", "(I)I"⟩, 5), (⟨"java/lang/Throwable", "fillInStackTrace", "(I)Ljava/lang/Throwable;"⟩, 6), (⟨"BillMatchModel", "numbered", "(II)I"⟩, 22), (⟨"BillMatchModel", "isBill", "(I)Z"⟩, 22), (⟨"BillMatchModel", "depthOf", "(I)I"⟩, 22), (⟨"BillMatchModel", "make", "(III)I"⟩, 22), (⟨"BillMatchModel", "add", "(III)I"⟩, 22), (⟨"BillMatchModel", "linesOf", "(I)I"⟩, 22), (⟨"BillMatchModel", "isBox", "(I)Z"⟩, 22), (⟨"BillMatchModel", "stands", "(II)Z"⟩, 22), (⟨"BillMatchModel", "billsOf", "(I)I"⟩, 22), (⟨"BillMatchModel", "lineAt", "(II)I"⟩, 22), (⟨"BillMatchModel", "weightOf", "(I)I"⟩, 22)]
theorem lw_r1 : ∀ q ∈ lw_privs_1, lw_okq q := List.forall_mem_cons.mpr ⟨lw_p0, List.forall_mem_cons.mpr ⟨lw_p1, List.forall_mem_cons.mpr ⟨lw_p2, List.forall_mem_cons.mpr ⟨lw_p3, List.forall_mem_cons.mpr ⟨lw_p4, List.forall_mem_cons.mpr ⟨lw_p5, List.forall_mem_cons.mpr ⟨lw_p6, List.forall_mem_cons.mpr ⟨lw_p7, List.forall_mem_cons.mpr ⟨lw_p8, List.forall_mem_cons.mpr ⟨lw_p9, List.forall_mem_cons.mpr ⟨lw_p10, List.forall_mem_cons.mpr ⟨lw_p11, List.forall_mem_cons.mpr ⟨lw_p12, List.forall_mem_cons.mpr ⟨lw_p13, List.forall_mem_cons.mpr ⟨lw_p14, List.forall_mem_cons.mpr ⟨lw_p15, fun _ h => absurd h List.not_mem_nil⟩⟩⟩⟩⟩⟩⟩⟩⟩⟩⟩⟩⟩⟩⟩⟩
theorem lw_p16 : lw_okq (⟨"BillMatchModel", "belowOf", "(I)I"⟩, 22) := ⟨⟨by decide +kernel, by decide +kernel⟩, List.mem_of_getElem? (i := 565) (by decide +kernel), List.mem_of_getElem? (i := 735) (by decide +kernel), List.mem_of_getElem? (i := 736) (by decide +kernel)⟩
theorem lw_p17 : lw_okq (⟨"BillMatchModel", "previousOf", "(I)I"⟩, 22) := ⟨⟨by decide +kernel, by decide +kernel⟩, List.mem_of_getElem? (i := 565) (by decide +kernel), List.mem_of_getElem? (i := 744) (by decide +kernel), List.mem_of_getElem? (i := 745) (by decide +kernel)⟩
theorem lw_p18 : lw_okq (⟨"BillMatchModel", "firstOf", "(I)I"⟩, 22) := ⟨⟨by decide +kernel, by decide +kernel⟩, List.mem_of_getElem? (i := 565) (by decide +kernel), List.mem_of_getElem? (i := 748) (by decide +kernel), List.mem_of_getElem? (i := 749) (by decide +kernel)⟩
theorem lw_p19 : lw_okq (⟨"BillMatchModel", "landedWeight", "(I)I"⟩, 22) := ⟨⟨by decide +kernel, by decide +kernel⟩, List.mem_of_getElem? (i := 565) (by decide +kernel), List.mem_of_getElem? (i := 756) (by decide +kernel), List.mem_of_getElem? (i := 757) (by decide +kernel)⟩
theorem lw_p20 : lw_okq (⟨"BillMatchModel", "piecesOf", "(I)I"⟩, 22) := ⟨⟨by decide +kernel, by decide +kernel⟩, List.mem_of_getElem? (i := 565) (by decide +kernel), List.mem_of_getElem? (i := 760) (by decide +kernel), List.mem_of_getElem? (i := 761) (by decide +kernel)⟩
theorem lw_p21 : lw_okq (⟨"BillMatchModel", "differs", "(I)I"⟩, 22) := ⟨⟨by decide +kernel, by decide +kernel⟩, List.mem_of_getElem? (i := 565) (by decide +kernel), List.mem_of_getElem? (i := 764) (by decide +kernel), List.mem_of_getElem? (i := 765) (by decide +kernel)⟩
theorem lw_p22 : lw_okq (⟨"BillMatchModel", "boxesOf", "(I)I"⟩, 22) := ⟨⟨by decide +kernel, by decide +kernel⟩, List.mem_of_getElem? (i := 565) (by decide +kernel), List.mem_of_getElem? (i := 768) (by decide +kernel), List.mem_of_getElem? (i := 769) (by decide +kernel)⟩
theorem lw_p23 : lw_okq (⟨"BillMatchModel", "masterOf", "(I)I"⟩, 22) := ⟨⟨by decide +kernel, by decide +kernel⟩, List.mem_of_getElem? (i := 565) (by decide +kernel), List.mem_of_getElem? (i := 772) (by decide +kernel), List.mem_of_getElem? (i := 773) (by decide +kernel)⟩
theorem lw_p24 : lw_okq (⟨"BillMatchModel", "waitsNow", "(I)Z"⟩, 22) := ⟨⟨by decide +kernel, by decide +kernel⟩, List.mem_of_getElem? (i := 565) (by decide +kernel), List.mem_of_getElem? (i := 780) (by decide +kernel), List.mem_of_getElem? (i := 781) (by decide +kernel)⟩
theorem lw_p25 : lw_okq (⟨"BillMatchModel", "differing", "()I"⟩, 22) := ⟨⟨by decide +kernel, by decide +kernel⟩, List.mem_of_getElem? (i := 565) (by decide +kernel), List.mem_of_getElem? (i := 799) (by decide +kernel), List.mem_of_getElem? (i := 800) (by decide +kernel)⟩
def lw_privs_2 : List (MethodName × Nat) := [(⟨"BillMatchModel", "belowOf", "(I)I"⟩, 22), (⟨"BillMatchModel", "previousOf", "(I)I"⟩, 22), (⟨"BillMatchModel", "firstOf", "(I)I"⟩, 22), (⟨"BillMatchModel", "landedWeight", "(I)I"⟩, 22), (⟨"BillMatchModel", "piecesOf", "(I)I"⟩, 22), (⟨"BillMatchModel", "differs", "(I)I"⟩, 22), (⟨"BillMatchModel", "boxesOf", "(I)I"⟩, 22), (⟨"BillMatchModel", "masterOf", "(I)I"⟩, 22), (⟨"BillMatchModel", "waitsNow", "(I)Z"⟩, 22), (⟨"BillMatchModel", "differing", "()I"⟩, 22)]
theorem lw_r2 : ∀ q ∈ lw_privs_2, lw_okq q := List.forall_mem_cons.mpr ⟨lw_p16, List.forall_mem_cons.mpr ⟨lw_p17, List.forall_mem_cons.mpr ⟨lw_p18, List.forall_mem_cons.mpr ⟨lw_p19, List.forall_mem_cons.mpr ⟨lw_p20, List.forall_mem_cons.mpr ⟨lw_p21, List.forall_mem_cons.mpr ⟨lw_p22, List.forall_mem_cons.mpr ⟨lw_p23, List.forall_mem_cons.mpr ⟨lw_p24, List.forall_mem_cons.mpr ⟨lw_p25, fun _ h => absurd h List.not_mem_nil⟩⟩⟩⟩⟩⟩⟩⟩⟩⟩
def lw_privs : List (MethodName × Nat) := lw_privs_1 ++ (lw_privs_2)
def lw_tbl : List Cond := k2_sels lw_privs ++ tables_1
theorem lw_privs_ok : ∀ q ∈ lw_privs, lw_okq q := by
  show ∀ q ∈ lw_privs_1 ++ (lw_privs_2), lw_okq q
  exact List.forall_mem_append.mpr ⟨lw_r1, lw_r2⟩
/-! ===== own names ===== -/
def R_M : String := "BillMatch"
def R_B : String := "BillMatch$Bills"
def R_N : String := "BillMatch$Lines"
def R_X : String := "BillMatch$Boxes"
def R_K : String := "BillMatchModel"
def R_L : String := "BillMatchLaw"
def R_J : String := "java/lang/Long"
def F_M : u_T := fun k => match k with
  | 0 => ("BillMatch", "bills", "LBillMatch$Bills;", true)
  | 1 => ("BillMatch", "lines", "LBillMatch$Lines;", true)
  | 2 => ("BillMatch", "boxes", "LBillMatch$Boxes;", true)
  | 3 => ("BillMatch", "arrivedCalls", "I", false)
  | _ => ("BillMatch", "penalties", "I", false)
def t_M : Nat → FieldType := fun k => match k with
  | 0 => .object "BillMatch$Bills"
  | 1 => .object "BillMatch$Lines"
  | 2 => .object "BillMatch$Boxes"
  | 3 => .int
  | _ => .int
theorem n_M : ∀ a, a < 5 → ∀ b, b < 5 → a ≠ b → (F_M a).2.1 ≠ (F_M b).2.1 := by decide +kernel
theorem t_M_ok : ∀ k, k < 5 → parseFieldDescriptor (F_M k).2.2.1 = some (t_M k) := by decide +kernel
def F_B : u_T := fun k => match k with
  | 0 => ("BillMatch$Bills", "size", "I", false)
  | 1 => ("BillMatch$Bills", "call", "[I", true)
  | 2 => ("BillMatch$Bills", "number", "[I", true)
  | 3 => ("BillMatch$Bills", "above", "[I", true)
  | 4 => ("BillMatch$Bills", "depth", "[I", true)
  | 5 => ("BillMatch$Bills", "master", "[I", true)
  | 6 => ("BillMatch$Bills", "holder", "[I", true)
  | _ => ("BillMatch$Bills", "orders", "[I", true)
def t_B : Nat → FieldType := fun k => match k with
  | 0 => .int
  | 1 => .array .int
  | 2 => .array .int
  | 3 => .array .int
  | 4 => .array .int
  | 5 => .array .int
  | 6 => .array .int
  | _ => .array .int
theorem n_B : ∀ a, a < 8 → ∀ b, b < 8 → a ≠ b → (F_B a).2.1 ≠ (F_B b).2.1 := by decide +kernel
theorem t_B_ok : ∀ k, k < 8 → parseFieldDescriptor (F_B k).2.2.1 = some (t_B k) := by decide +kernel
def F_N : u_T := fun k => match k with
  | 0 => ("BillMatch$Lines", "size", "I", false)
  | 1 => ("BillMatch$Lines", "bill", "[I", true)
  | 2 => ("BillMatch$Lines", "weight", "[I", true)
  | 3 => ("BillMatch$Lines", "linesOf", "[I", true)
  | 4 => ("BillMatch$Lines", "weightOf", "[I", true)
  | _ => ("BillMatch$Lines", "piecesOf", "[I", true)
def t_N : Nat → FieldType := fun k => match k with
  | 0 => .int
  | 1 => .array .int
  | 2 => .array .int
  | 3 => .array .int
  | 4 => .array .int
  | _ => .array .int
theorem n_N : ∀ a, a < 6 → ∀ b, b < 6 → a ≠ b → (F_N a).2.1 ≠ (F_N b).2.1 := by decide +kernel
theorem t_N_ok : ∀ k, k < 6 → parseFieldDescriptor (F_N k).2.2.1 = some (t_N k) := by decide +kernel
def F_X : u_T := fun k => match k with
  | 0 => ("BillMatch$Boxes", "size", "I", false)
  | 1 => ("BillMatch$Boxes", "call", "[I", true)
  | 2 => ("BillMatch$Boxes", "number", "[I", true)
  | 3 => ("BillMatch$Boxes", "weight", "[I", true)
  | 4 => ("BillMatch$Boxes", "landed", "[I", true)
  | 5 => ("BillMatch$Boxes", "bills", "[J", true)
  | 6 => ("BillMatch$Boxes", "orderedBy", "[I", true)
  | 7 => ("BillMatch$Boxes", "next", "[I", true)
  | _ => ("BillMatch$Boxes", "before", "[I", true)
def t_X : Nat → FieldType := fun k => match k with
  | 0 => .int
  | 1 => .array .int
  | 2 => .array .int
  | 3 => .array .int
  | 4 => .array .int
  | 5 => .array .long
  | 6 => .array .int
  | 7 => .array .int
  | _ => .array .int
theorem n_X : ∀ a, a < 9 → ∀ b, b < 9 → a ≠ b → (F_X a).2.1 ≠ (F_X b).2.1 := by decide +kernel
theorem t_X_ok : ∀ k, k < 9 → parseFieldDescriptor (F_X k).2.2.1 = some (t_X k) := by decide +kernel
def F_K : u_T := fun k => match k with
  | 0 => ("BillMatchModel", "thrown", "I", false)
  | 1 => ("BillMatchModel", "bills", "I", false)
  | 2 => ("BillMatchModel", "boxes", "I", false)
  | 3 => ("BillMatchModel", "lines", "I", false)
  | 4 => ("BillMatchModel", "penalties", "I", false)
  | 5 => ("BillMatchModel", "orders", "I", false)
  | 6 => ("BillMatchModel", "arrived", "I", false)
  | 7 => ("BillMatchModel", "callOf", "[I", true)
  | 8 => ("BillMatchModel", "numberOf", "[I", true)
  | 9 => ("BillMatchModel", "aboveOf", "[I", true)
  | 10 => ("BillMatchModel", "holderOf", "[I", true)
  | 11 => ("BillMatchModel", "ordersOf", "[I", true)
  | 12 => ("BillMatchModel", "lineBill", "[I", true)
  | 13 => ("BillMatchModel", "lineWeight", "[I", true)
  | 14 => ("BillMatchModel", "linePieces", "[I", true)
  | 15 => ("BillMatchModel", "boxCall", "[I", true)
  | 16 => ("BillMatchModel", "boxNumber", "[I", true)
  | 17 => ("BillMatchModel", "boxWeight", "[I", true)
  | 18 => ("BillMatchModel", "landedOf", "[I", true)
  | 19 => ("BillMatchModel", "orderedBy", "[I", true)
  | 20 => ("BillMatchModel", "nextOf", "[I", true)
  | _ => ("BillMatchModel", "isOn", "[Z", true)
def t_K : Nat → FieldType := fun k => match k with
  | 0 => .int
  | 1 => .int
  | 2 => .int
  | 3 => .int
  | 4 => .int
  | 5 => .int
  | 6 => .int
  | 7 => .array .int
  | 8 => .array .int
  | 9 => .array .int
  | 10 => .array .int
  | 11 => .array .int
  | 12 => .array .int
  | 13 => .array .int
  | 14 => .array .int
  | 15 => .array .int
  | 16 => .array .int
  | 17 => .array .int
  | 18 => .array .int
  | 19 => .array .int
  | 20 => .array .int
  | _ => .array .boolean
theorem n_K : ∀ a, a < 22 → ∀ b, b < 22 → a ≠ b → (F_K a).2.1 ≠ (F_K b).2.1 := by decide +kernel
theorem t_K_ok : ∀ k, k < 22 → parseFieldDescriptor (F_K k).2.2.1 = some (t_K k) := by decide +kernel
abbrev classes : List vw_C := [(R_M, F_M, 5), (R_B, F_B, 8), (R_N, F_N, 6), (R_X, F_X, 9), (R_K, F_K, 22)]
/-- the words that every method here rests on -/
def TB : List Cond := lw_tbl.filter goodWord
theorem tb_good : ∀ w ∈ TB, goodWord w = true := fun w h => (List.mem_filter.mp h).2
theorem tb_in {w : Cond} {i : Nat} (h : lw_tbl[i]? = some w) (hg : goodWord w = true) : w ∈ TB := List.mem_filter.mpr ⟨List.mem_of_getElem? h, hg⟩
theorem iw_M : ∀ w ∈ u_ws R_M F_M 5, w ∈ TB := by decide +kernel
theorem iw_B : ∀ w ∈ u_ws R_B F_B 8, w ∈ TB := by decide +kernel
theorem iw_N : ∀ w ∈ u_ws R_N F_N 6, w ∈ TB := by decide +kernel
theorem iw_X : ∀ w ∈ u_ws R_X F_X 9, w ∈ TB := by decide +kernel
theorem iw_K : ∀ w ∈ u_ws R_K F_K 22, w ∈ TB := by decide +kernel
abbrev b_M_init : ByteArray := prog_1_method_1_code
def y_M_init : MethodName := ⟨R_M, "<init>", "()V"⟩
abbrev b_M_bill : ByteArray := prog_1_method_2_code
def y_M_bill : MethodName := ⟨R_M, "bill", "(III)I"⟩
abbrev b_M_line : ByteArray := prog_1_method_3_code
def y_M_line : MethodName := ⟨R_M, "line", "(III)I"⟩
abbrev b_M_box : ByteArray := prog_1_method_4_code
def y_M_box : MethodName := ⟨R_M, "box", "(III)I"⟩
abbrev b_M_on : ByteArray := prog_1_method_5_code
def y_M_on : MethodName := ⟨R_M, "on", "(II)Z"⟩
abbrev b_M_land : ByteArray := prog_1_method_6_code
def y_M_land : MethodName := ⟨R_M, "land", "(II)Z"⟩
abbrev b_M_arrive : ByteArray := prog_1_method_7_code
def y_M_arrive : MethodName := ⟨R_M, "arrive", "(I)Z"⟩
abbrev b_M_amend : ByteArray := prog_1_method_8_code
def y_M_amend : MethodName := ⟨R_M, "amend", "(III)I"⟩
abbrev b_M_title : ByteArray := prog_1_method_9_code
def y_M_title : MethodName := ⟨R_M, "title", "(III)I"⟩
abbrev b_M_order : ByteArray := prog_1_method_10_code
def y_M_order : MethodName := ⟨R_M, "order", "(III)I"⟩
abbrev b_M_split : ByteArray := prog_1_method_11_code
def y_M_split : MethodName := ⟨R_M, "split", "(II)I"⟩
abbrev b_M_leg : ByteArray := prog_1_method_12_code
def y_M_leg : MethodName := ⟨R_M, "leg", "(II)Z"⟩
abbrev b_M_look : ByteArray := prog_1_method_13_code
def y_M_look : MethodName := ⟨R_M, "look", "(II)I"⟩
abbrev b_M_seen : ByteArray := prog_1_method_14_code
def y_M_seen : MethodName := ⟨R_M, "seen", "(II)I"⟩
abbrev b_M_waits : ByteArray := prog_1_method_15_code
def y_M_waits : MethodName := ⟨R_M, "waits", "(I)I"⟩
abbrev b_M_like : ByteArray := prog_1_method_16_code
def y_M_like : MethodName := ⟨R_M, "like", "(III)I"⟩
abbrev b_M_count : ByteArray := prog_1_method_17_code
def y_M_count : MethodName := ⟨R_M, "count", "(I)I"⟩
abbrev b_M_hasArrived : ByteArray := prog_1_method_18_code
def y_M_hasArrived : MethodName := ⟨R_M, "hasArrived", "(I)Z"⟩
abbrev b_M_difference : ByteArray := prog_1_method_19_code
def y_M_difference : MethodName := ⟨R_M, "difference", "(I)I"⟩
abbrev b_M_mastersThatDiffer : ByteArray := prog_1_method_20_code
def y_M_mastersThatDiffer : MethodName := ⟨R_M, "mastersThatDiffer", "()I"⟩
abbrev b_M_someOneDiffers : ByteArray := prog_1_method_21_code
def y_M_someOneDiffers : MethodName := ⟨R_M, "someOneDiffers", "(I)Z"⟩
abbrev b_M_isCall : ByteArray := prog_1_method_22_code
def y_M_isCall : MethodName := ⟨R_M, "isCall", "(I)Z"⟩
abbrev b_M_isNumber : ByteArray := prog_1_method_23_code
def y_M_isNumber : MethodName := ⟨R_M, "isNumber", "(I)Z"⟩
abbrev b_M_isWeight : ByteArray := prog_1_method_24_code
def y_M_isWeight : MethodName := ⟨R_M, "isWeight", "(I)Z"⟩
abbrev b_M_isHolder : ByteArray := prog_1_method_25_code
def y_M_isHolder : MethodName := ⟨R_M, "isHolder", "(I)Z"⟩
abbrev b_M_areAlike : ByteArray := prog_1_method_26_code
def y_M_areAlike : MethodName := ⟨R_M, "areAlike", "(II)Z"⟩
abbrev b_B_init : ByteArray := prog_2_method_1_code
def y_B_init : MethodName := ⟨R_B, "<init>", "()V"⟩
abbrev b_B_has : ByteArray := prog_2_method_2_code
def y_B_has : MethodName := ⟨R_B, "has", "(I)Z"⟩
abbrev b_B_isFull : ByteArray := prog_2_method_3_code
def y_B_isFull : MethodName := ⟨R_B, "isFull", "()Z"⟩
abbrev b_B_isOrdered : ByteArray := prog_2_method_4_code
def y_B_isOrdered : MethodName := ⟨R_B, "isOrdered", "(I)Z"⟩
abbrev b_B_isTaken : ByteArray := prog_2_method_5_code
def y_B_isTaken : MethodName := ⟨R_B, "isTaken", "(II)Z"⟩
abbrev b_B_mayStandUnder : ByteArray := prog_2_method_6_code
def y_B_mayStandUnder : MethodName := ⟨R_B, "mayStandUnder", "(II)Z"⟩
abbrev b_B_add : ByteArray := prog_2_method_7_code
def y_B_add : MethodName := ⟨R_B, "add", "(IIII)I"⟩
abbrev b_B_nextFreeNumber : ByteArray := prog_2_method_8_code
def y_B_nextFreeNumber : MethodName := ⟨R_B, "nextFreeNumber", "(I)I"⟩
abbrev b_B_under : ByteArray := prog_2_method_9_code
def y_B_under : MethodName := ⟨R_B, "under", "(I)I"⟩
abbrev b_N_init : ByteArray := prog_4_method_1_code
def y_N_init : MethodName := ⟨R_N, "<init>", "()V"⟩
abbrev b_N_isFull : ByteArray := prog_4_method_2_code
def y_N_isFull : MethodName := ⟨R_N, "isFull", "()Z"⟩
abbrev b_N_add : ByteArray := prog_4_method_3_code
def y_N_add : MethodName := ⟨R_N, "add", "(III)I"⟩
abbrev b_N_rowOf : ByteArray := prog_4_method_4_code
def y_N_rowOf : MethodName := ⟨R_N, "rowOf", "(II)I"⟩
abbrev b_N_changeWeight : ByteArray := prog_4_method_5_code
def y_N_changeWeight : MethodName := ⟨R_N, "changeWeight", "(II)I"⟩
abbrev b_N_take : ByteArray := prog_4_method_6_code
def y_N_take : MethodName := ⟨R_N, "take", "(II)V"⟩
abbrev b_X_init : ByteArray := prog_3_method_1_code
def y_X_init : MethodName := ⟨R_X, "<init>", "()V"⟩
abbrev b_X_has : ByteArray := prog_3_method_2_code
def y_X_has : MethodName := ⟨R_X, "has", "(I)Z"⟩
abbrev b_X_isFull : ByteArray := prog_3_method_3_code
def y_X_isFull : MethodName := ⟨R_X, "isFull", "()Z"⟩
abbrev b_X_isTaken : ByteArray := prog_3_method_4_code
def y_X_isTaken : MethodName := ⟨R_X, "isTaken", "(II)Z"⟩
abbrev b_X_add : ByteArray := prog_3_method_5_code
def y_X_add : MethodName := ⟨R_X, "add", "(III)I"⟩
abbrev b_X_isOn : ByteArray := prog_3_method_6_code
def y_X_isOn : MethodName := ⟨R_X, "isOn", "(II)Z"⟩
abbrev b_X_putOn : ByteArray := prog_3_method_7_code
def y_X_putOn : MethodName := ⟨R_X, "putOn", "(II)V"⟩
abbrev b_X_billsOf : ByteArray := prog_3_method_8_code
def y_X_billsOf : MethodName := ⟨R_X, "billsOf", "(I)I"⟩
abbrev b_X_billAt : ByteArray := prog_3_method_9_code
def y_X_billAt : MethodName := ⟨R_X, "billAt", "(II)I"⟩
abbrev b_X_hasLanded : ByteArray := prog_3_method_10_code
def y_X_hasLanded : MethodName := ⟨R_X, "hasLanded", "(I)Z"⟩
abbrev b_X_isOrdered : ByteArray := prog_3_method_11_code
def y_X_isOrdered : MethodName := ⟨R_X, "isOrdered", "(I)Z"⟩
abbrev b_X_isWaiting : ByteArray := prog_3_method_12_code
def y_X_isWaiting : MethodName := ⟨R_X, "isWaiting", "(I)Z"⟩
abbrev b_X_boxesOn : ByteArray := prog_3_method_13_code
def y_X_boxesOn : MethodName := ⟨R_X, "boxesOn", "(I)I"⟩
abbrev b_X_landedOf : ByteArray := prog_3_method_14_code
def y_X_landedOf : MethodName := ⟨R_X, "landedOf", "(I)I"⟩
abbrev b_X_share : ByteArray := prog_3_method_15_code
def y_X_share : MethodName := ⟨R_X, "share", "(II)I"⟩
abbrev b_X_first : ByteArray := prog_3_method_16_code
def y_X_first : MethodName := ⟨R_X, "first", "(I)I"⟩
abbrev b_X_weightSoFar : ByteArray := prog_3_method_17_code
def y_X_weightSoFar : MethodName := ⟨R_X, "weightSoFar", "(I)I"⟩
abbrev b_X_landedOnes : ByteArray := prog_3_method_18_code
def y_X_landedOnes : MethodName := ⟨R_X, "landedOnes", "()I"⟩
abbrev b_X_orderedOnes : ByteArray := prog_3_method_19_code
def y_X_orderedOnes : MethodName := ⟨R_X, "orderedOnes", "()I"⟩
abbrev b_X_waitingOnes : ByteArray := prog_3_method_20_code
def y_X_waitingOnes : MethodName := ⟨R_X, "waitingOnes", "()I"⟩
abbrev b_K_init : ByteArray := prog_6_method_1_code
def y_K_init : MethodName := ⟨R_K, "<init>", "()V"⟩
abbrev b_K_thrown : ByteArray := prog_6_method_2_code
def y_K_thrown : MethodName := ⟨R_K, "thrown", "()I"⟩
abbrev b_K_in : ByteArray := prog_6_method_3_code
def y_K_in : MethodName := ⟨R_K, "in", "(III)Z"⟩
abbrev b_K_isBill : ByteArray := prog_6_method_4_code
def y_K_isBill : MethodName := ⟨R_K, "isBill", "(I)Z"⟩
abbrev b_K_isBox : ByteArray := prog_6_method_5_code
def y_K_isBox : MethodName := ⟨R_K, "isBox", "(I)Z"⟩
abbrev b_K_stands : ByteArray := prog_6_method_6_code
def y_K_stands : MethodName := ⟨R_K, "stands", "(II)Z"⟩
abbrev b_K_numbered : ByteArray := prog_6_method_7_code
def y_K_numbered : MethodName := ⟨R_K, "numbered", "(II)I"⟩
abbrev b_K_depthOf : ByteArray := prog_6_method_8_code
def y_K_depthOf : MethodName := ⟨R_K, "depthOf", "(I)I"⟩
abbrev b_K_masterOf : ByteArray := prog_6_method_9_code
def y_K_masterOf : MethodName := ⟨R_K, "masterOf", "(I)I"⟩
abbrev b_K_linesOf : ByteArray := prog_6_method_10_code
def y_K_linesOf : MethodName := ⟨R_K, "linesOf", "(I)I"⟩
abbrev b_K_weightOf : ByteArray := prog_6_method_11_code
def y_K_weightOf : MethodName := ⟨R_K, "weightOf", "(I)I"⟩
abbrev b_K_piecesOf : ByteArray := prog_6_method_12_code
def y_K_piecesOf : MethodName := ⟨R_K, "piecesOf", "(I)I"⟩
abbrev b_K_belowOf : ByteArray := prog_6_method_13_code
def y_K_belowOf : MethodName := ⟨R_K, "belowOf", "(I)I"⟩
abbrev b_K_differs : ByteArray := prog_6_method_14_code
def y_K_differs : MethodName := ⟨R_K, "differs", "(I)I"⟩
abbrev b_K_billsOf : ByteArray := prog_6_method_15_code
def y_K_billsOf : MethodName := ⟨R_K, "billsOf", "(I)I"⟩
abbrev b_K_boxesOf : ByteArray := prog_6_method_16_code
def y_K_boxesOf : MethodName := ⟨R_K, "boxesOf", "(I)I"⟩
abbrev b_K_landedWeight : ByteArray := prog_6_method_17_code
def y_K_landedWeight : MethodName := ⟨R_K, "landedWeight", "(I)I"⟩
abbrev b_K_waitsNow : ByteArray := prog_6_method_18_code
def y_K_waitsNow : MethodName := ⟨R_K, "waitsNow", "(I)Z"⟩
abbrev b_K_make : ByteArray := prog_6_method_19_code
def y_K_make : MethodName := ⟨R_K, "make", "(III)I"⟩
abbrev b_K_bill : ByteArray := prog_6_method_20_code
def y_K_bill : MethodName := ⟨R_K, "bill", "(III)I"⟩
abbrev b_K_add : ByteArray := prog_6_method_21_code
def y_K_add : MethodName := ⟨R_K, "add", "(III)I"⟩
abbrev b_K_line : ByteArray := prog_6_method_22_code
def y_K_line : MethodName := ⟨R_K, "line", "(III)I"⟩
abbrev b_K_box : ByteArray := prog_6_method_23_code
def y_K_box : MethodName := ⟨R_K, "box", "(III)I"⟩
abbrev b_K_on : ByteArray := prog_6_method_24_code
def y_K_on : MethodName := ⟨R_K, "on", "(II)Z"⟩
abbrev b_K_land : ByteArray := prog_6_method_25_code
def y_K_land : MethodName := ⟨R_K, "land", "(II)Z"⟩
abbrev b_K_arrive : ByteArray := prog_6_method_26_code
def y_K_arrive : MethodName := ⟨R_K, "arrive", "(I)Z"⟩
abbrev b_K_lineAt : ByteArray := prog_6_method_27_code
def y_K_lineAt : MethodName := ⟨R_K, "lineAt", "(II)I"⟩
abbrev b_K_amend : ByteArray := prog_6_method_28_code
def y_K_amend : MethodName := ⟨R_K, "amend", "(III)I"⟩
abbrev b_K_isHolder : ByteArray := prog_6_method_29_code
def y_K_isHolder : MethodName := ⟨R_K, "isHolder", "(I)Z"⟩
abbrev b_K_title : ByteArray := prog_6_method_30_code
def y_K_title : MethodName := ⟨R_K, "title", "(III)I"⟩
abbrev b_K_order : ByteArray := prog_6_method_31_code
def y_K_order : MethodName := ⟨R_K, "order", "(III)I"⟩
abbrev b_K_split : ByteArray := prog_6_method_32_code
def y_K_split : MethodName := ⟨R_K, "split", "(II)I"⟩
abbrev b_K_previousOf : ByteArray := prog_6_method_33_code
def y_K_previousOf : MethodName := ⟨R_K, "previousOf", "(I)I"⟩
abbrev b_K_firstOf : ByteArray := prog_6_method_34_code
def y_K_firstOf : MethodName := ⟨R_K, "firstOf", "(I)I"⟩
abbrev b_K_leg : ByteArray := prog_6_method_35_code
def y_K_leg : MethodName := ⟨R_K, "leg", "(II)Z"⟩
abbrev b_K_look : ByteArray := prog_6_method_36_code
def y_K_look : MethodName := ⟨R_K, "look", "(II)I"⟩
abbrev b_K_seen : ByteArray := prog_6_method_37_code
def y_K_seen : MethodName := ⟨R_K, "seen", "(II)I"⟩
abbrev b_K_waits : ByteArray := prog_6_method_38_code
def y_K_waits : MethodName := ⟨R_K, "waits", "(I)I"⟩
abbrev b_K_isLike : ByteArray := prog_6_method_39_code
def y_K_isLike : MethodName := ⟨R_K, "isLike", "(II)Z"⟩
abbrev b_K_like : ByteArray := prog_6_method_40_code
def y_K_like : MethodName := ⟨R_K, "like", "(III)I"⟩
abbrev b_K_differing : ByteArray := prog_6_method_41_code
def y_K_differing : MethodName := ⟨R_K, "differing", "()I"⟩
abbrev b_K_count : ByteArray := prog_6_method_42_code
def y_K_count : MethodName := ⟨R_K, "count", "(I)I"⟩
abbrev b_L_bill : ByteArray := method_3_code
def y_L_bill : MethodName := ⟨R_L, "bill", "(LBillMatch;III[J)I"⟩
abbrev b_L_line : ByteArray := method_4_code
def y_L_line : MethodName := ⟨R_L, "line", "(LBillMatch;III[J)I"⟩
abbrev b_L_box : ByteArray := method_5_code
def y_L_box : MethodName := ⟨R_L, "box", "(LBillMatch;III[J)I"⟩
abbrev b_L_amend : ByteArray := method_6_code
def y_L_amend : MethodName := ⟨R_L, "amend", "(LBillMatch;III[J)I"⟩
abbrev b_L_title : ByteArray := method_7_code
def y_L_title : MethodName := ⟨R_L, "title", "(LBillMatch;III[J)I"⟩
abbrev b_L_order : ByteArray := method_8_code
def y_L_order : MethodName := ⟨R_L, "order", "(LBillMatch;III[J)I"⟩
abbrev b_L_split : ByteArray := method_9_code
def y_L_split : MethodName := ⟨R_L, "split", "(LBillMatch;II[J)I"⟩
abbrev b_L_look : ByteArray := method_10_code
def y_L_look : MethodName := ⟨R_L, "look", "(LBillMatch;II[J)I"⟩
abbrev b_L_seen : ByteArray := method_11_code
def y_L_seen : MethodName := ⟨R_L, "seen", "(LBillMatch;II[J)I"⟩
abbrev b_L_like : ByteArray := method_12_code
def y_L_like : MethodName := ⟨R_L, "like", "(LBillMatch;III[J)I"⟩
abbrev b_L_law : ByteArray := code
abbrev b_J_bitCount : ByteArray := prog_11_method_50_code
def y_J_bitCount : MethodName := ⟨R_J, "bitCount", "(J)I"⟩
