/-! The law's loop: what stands at its head, and what a call on both sides gives -/
theorem D_swap {A : Nat → Prop} {a b : va_W} (h : va_D A (a ++ b)) : va_D A (b ++ a) := by
  refine va_D.app (fr_r h) (fr_l h) (fun i j x y hx hy hxy => ?_)
  have hk : j < a.length := (List.getElem?_eq_some_iff.mp hy).1
  have h1 : (a ++ b)[j]? = some y := by rw [List.getElem?_append_left hk]; exact hy
  have := h.1 (a.length + i) j x y (fr_at hx) h1 hxy
  omega
theorem lgc (a : Int64) : lg_cmp a a = 0 := by
  unfold lg_cmp
  simp
section QS
variable {p : Program} {l : Launch} {e : Env} {R : Room} {s : State} {m : MethodId} {args : Array Value} {below : List Frame} {meth : Method} {c : Code} {H : Heap} {locs : List Loc} {cells slots : Nat} {Q : State → Prop}
variable {cc : ByteArray} {pc : Nat} {ls : Array Slot} {rest : List Value} {A : Nat → Prop} {H0 : Heap}
theorem q_sld (hexec : p.tables.exec = Jvm.exec) (hb : c.code = cc) {b L : Nat} {xs : Nat → Int32} (hX : va_X b L xs s H0) (hbl : b < H0.size) (hbA : ¬ A b) (hS : va_S A H0 H locs) (k : Nat) (hk : k < L) (hL : L < 2 ^ 31) (hdg : decode cc pc = .ok (.iaload, 1))
    (kk : W p l e R s m args below meth c H locs cells slots Q (F0 m (pc + 1) ls (.int (xs k) :: rest))) : W p l e R s m args below meth c H locs cells slots Q (F0 m pc ls (.int (nI k) :: .ref b :: rest)) := by
  refine va_sld hexec hb hX hbl hbA hS (vp_in_nI hk hL) hdg ?_
  rw [nI_clamp (Nat.lt_trans hk hL)]; exact kk
end QS
abbrev LA (s : State) : Nat → Prop := fun q => s.heap.size ≤ q
/-- what doesn't change while the law runs -/
def LF (p : Program) (l : Launch) (s : State) (m : MethodId) (args : Array Value) (c : Code) (D : va_G) (kd kn : Nat → ClassId) (ko : ClassId) (b L : Nat) (xs : Nat → Int32) : Prop :=
  p.tables.exec = Jvm.exec ∧ c.code = code ∧ c.maxLocals = 7 ∧ s.vm.findClass R_L = some m.cls ∧ (∀ w ∈ TB, w.before args s = true) ∧ va_X b L xs s s.heap ∧ b < s.heap.size ∧ va_K D classes (tA kd) s ∧ va_K D classes (tK kn) s ∧ va_K D classes [(ko, .long)] s ∧ XG xStr s.heap.size s s.heap ∧ L ≤ 2048
theorem LF.xg {p : Program} {l : Launch} {s : State} {m : MethodId} {args : Array Value} {c : Code} {D : va_G} {kd kn : Nat → ClassId} {ko : ClassId} {b L : Nat} {xs : Nat → Int32} (F : LF p l s m args c D kd kn ko b L xs) {H : Heap} {locs : List Loc} (hS : va_S (LA s) s.heap H locs) : XG xStr s.heap.size s H :=
  F.2.2.2.2.2.2.2.2.2.2.1.kept (fun a ha => hS.2.1 a ha (Nat.not_le.mpr ha))
abbrev RmOk (rm : Room) (mc ms maxL : Nat) : Prop := rm.cells = mc ∧ rm.slots = ms ∧ rm.frames + 1 ≤ 10 ∧ 8 + (maxL + 11) + rm.locals ≤ 352
def wLaw (ad an : Nat → Nat) (kd kn : Nat → ClassId) (oa : Nat) (ko : ClassId) (g : Nat → Nat → Int32) (z : Nat → Int64) (v : Nat → Int32) (h : Nat → Nat → Int32) (o : Nat → Bool) (u : Nat → Int32) (fo : Nat → Int64) : va_W := wK an kn h o u ++ (wO oa ko fo ++ wA ad kd g z v)
/-- the relation that the loop keeps, any -/
abbrev RelT : Type := (Nat → Nat → Int32) → (Nat → Int64) → (Nat → Int32) → (Nat → Nat → Int32) → (Nat → Bool) → (Nat → Int32) → Prop
section RS
variable (REL : RelT) (l : Launch) (D : va_G) (ad an : Nat → Nat) (kd kn : Nat → ClassId) (g : Nat → Nat → Int32) (z : Nat → Int64) (v : Nat → Int32) (h : Nat → Nat → Int32) (o : Nat → Bool) (u : Nat → Int32)
/-- a call that may throw, on both sides -/
def RETS (yL : MethodName) (cL : ByteArray) (mL : Nat) (hh : List (Nat × Nat × Nat × Nat)) (yK : MethodName) (cK : ByteArray) (mK : Nat) (avs : List Value) : Prop :=
  (∃ (r : Int32) (g' : Nat → Nat → Int32) (z' : Nat → Int64) (v' : Nat → Int32) (h' : Nat → Nat → Int32) (o' : Nat → Bool) (u' : Nat → Int32) (rL rK : Room), RmOk rL 0 0 mL ∧ RmOk rK 0 0 mK ∧
    (∀ (oa : Nat) (ko : ClassId) (fo : Nat → Int64), WRi l yL (.codeWith yL cL mL (some .int) hh :: TB) rL (.ref (ad 0) :: (avs ++ [.ref oa])) D classes (wO oa ko fo ++ wA ad kd g z v) (wO oa ko (vp_updL fo 0 r.toInt64) ++ wA ad kd g' z' v') ([(ko, .long)] ++ tA kd) 0) ∧
    WRi l yK (.code yK cK mK (some .int) :: TB) rK (.ref (an 0) :: avs) D classes (wK an kn h o u) (wK an kn h' o' u') (tK kn) r ∧ u' 0 = 0 ∧ REL g' z' v' h' o' u') ∨
  (∃ (k r : Int32) (rL rK : Room), RmOk rL 1 6 mL ∧ RmOk rK 0 0 mK ∧
    (∀ oa : Nat, WT l yL (.codeWith yL cL mL (some .int) hh :: TB) rL (.ref (ad 0) :: (avs ++ [.ref oa])) D classes (wA ad kd g z v) (tA kd) xStr k) ∧
    WRi l yK (.code yK cK mK (some .int) :: TB) rK (.ref (an 0) :: avs) D classes (wK an kn h o u) (wK an kn h o (upd u 0 k)) (tK kn) r ∧ ¬ k = 0 ∧ REL g z v h o (upd u 0 k))
/-- a call that never throws, on both sides -/
def BOTH (yM : MethodName) (cM : ByteArray) (mM : Nat) (yK : MethodName) (cK : ByteArray) (mK : Nat) (ty : FieldType) (avs : List Value) : Prop :=
  ∃ (r : Int32) (g' : Nat → Nat → Int32) (z' : Nat → Int64) (v' : Nat → Int32) (h' : Nat → Nat → Int32) (o' : Nat → Bool) (u' : Nat → Int32) (rM rK : Room), RmOk rM 0 0 mM ∧ RmOk rK 0 0 mK ∧
    WRi l yM (.code yM cM mM (some ty) :: TB) rM (.ref (ad 0) :: avs) D classes (wA ad kd g z v) (wA ad kd g' z' v') (tA kd) r ∧
    WRi l yK (.code yK cK mK (some ty) :: TB) rK (.ref (an 0) :: avs) D classes (wK an kn h o u) (wK an kn h' o' u') (tK kn) r ∧ REL g' z' v' h' o' u'
end RS
/-- the walk goes on at the loop's step -/
def GO (REL : RelT) (p : Program) (l : Launch) (e : Env) (s : State) (m : MethodId) (args : Array Value) (below : List Frame) (meth : Method) (c : Code) (Q : State → Prop) (D : va_G) (ad an : Nat → Nat) (kd kn : Nat → ClassId) (oa : Nat) (ko : ClassId) (b i C S : Nat) : Prop :=
  ∀ (g : Nat → Nat → Int32) (z : Nat → Int64) (v : Nat → Int32) (h : Nat → Nat → Int32) (o : Nat → Bool) (u : Nat → Int32) (fo : Nat → Int64) (H : Heap) (locs : List Loc) (cells slots : Nat) (ls : Array Slot),
    REL g z v h o u → va_P D classes (wLaw ad an kd kn oa ko g z v h o u fo) H → va_D (LA s) (wLaw ad an kd kn oa ko g z v h o u fo) → va_S (LA s) s.heap H locs → cells ≤ C → slots ≤ S →
    lv_has ls 7 [(0, .ref b), (1, .ref (ad 0)), (2, .ref (an 0)), (3, .ref oa), (4, .int (nI i))] → W p l e room_1 s m args below meth c H locs cells slots Q (F0 m 1066 ls [])
theorem cd_any {s : State} {w : Cond} (hc : isCD w = true) {a0 a : Array Value} (h : w.before a0 s = true) : w.before a s = true := by
  cases w with
  | castable x y => exact h
  | declares x => exact h
  | _ => cases hc
