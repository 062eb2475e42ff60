/-! The reference's own words -/
def updO (o : Nat → Bool) (k : Nat) : Nat → Bool := fun q => if q = k then true else o q
def inS (v a b : Int32) : Bool := if v < a then false else if b < v then false else true
/-- the last number below n with P, or -1 -/
def lasN (P : Nat → Bool) : Nat → Int32
  | 0 => -1
  | n + 1 => if P n = true then nI n else lasN P n
theorem lasN_t {P : Nat → Bool} {n : Nat} (h : P n = true) : lasN P (n + 1) = nI n := if_pos h
theorem lasN_f {P : Nat → Bool} {n : Nat} (h : P n = false) : lasN P (n + 1) = lasN P n := if_neg (by rw [h]; decide)
def depF (f3 : Nat → Int32) : Nat → Nat → Nat
  | 0, _ => 1
  | f + 1, k => if f3 k < 0 then 1 else depF f3 f (ix (f3 k)) + 1
def masF (f3 : Nat → Int32) : Nat → Nat → Nat
  | 0, k => k
  | f + 1, k => if f3 k < 0 then k else masF f3 f (ix (f3 k))
theorem depF_neg {f3 : Nat → Int32} {f k : Nat} (hf : k < f) (h : f3 k < 0) : depF f3 f k = 1 := by
  obtain ⟨q, rfl⟩ : ∃ q, f = q + 1 := ⟨f - 1, by omega⟩
  exact if_pos h
theorem masF_neg {f3 : Nat → Int32} {f k : Nat} (hf : k < f) (h : f3 k < 0) : masF f3 f k = k := by
  obtain ⟨q, rfl⟩ : ∃ q, f = q + 1 := ⟨f - 1, by omega⟩
  exact if_pos h
/-- each bill stands under none or an earlier one -/
def abvOk (f3 : Nat → Int32) (nb : Nat) : Prop := ∀ k, k < nb → f3 k = -1 ∨ ∃ j, j < k ∧ f3 k = nI j
def wofR (h : Nat → Nat → Int32) (nl : Nat) (x : Int32) : Int32 := sumN (fun k => if h 6 k = x then h 7 k else 0) nl
def pofR (h : Nat → Nat → Int32) (nl : Nat) (x : Int32) : Int32 := sumN (fun k => if h 6 k = x then h 8 k else 0) nl
def lofR (h : Nat → Nat → Int32) (nl : Nat) (x : Int32) : Nat := cntN (fun k => decide (h 6 k = x)) nl
def belR (h : Nat → Nat → Int32) (nb : Nat) (x : Int32) : Nat := cntN (fun k => decide (h 3 k = x)) nb
def difR (h : Nat → Nat → Int32) (nb nl : Nat) (x : Int32) : Int32 := if belR h nb x = 0 then 0 else wofR h nl x - sumN (fun k => if h 3 k = x then wofR h nl (nI k) else 0) nb
def bofR (o : Nat → Bool) (nb k : Nat) : Nat := cntN (fun b => o (60 * k + b)) nb
def xofR (o : Nat → Bool) (nx b : Nat) : Nat := cntN (fun k => o (60 * k + b)) nx
def lshR (h : Nat → Nat → Int32) (o : Nat → Bool) (nb b k : Nat) : Int32 :=
  if o (60 * k + b) = true then (if 0 ≤ h 12 k then h 12 k / nI (bofR o nb k) + (if h 12 k - h 12 k / nI (bofR o nb k) * nI (bofR o nb k) ≤ nI (cntN (fun i => o (60 * k + i)) b) then 0 else 1) else 0) else 0
def lwtR (h : Nat → Nat → Int32) (o : Nat → Bool) (nb nx b : Nat) : Int32 := sumN (lshR h o nb b) nx
def wnoR (h : Nat → Nat → Int32) (o : Nat → Bool) (nb k : Nat) : Bool := if h 12 k < 0 then false else if bofR o nb k = 0 then true else false
def makR (h : Nat → Nat → Int32) (nb : Nat) (c n a : Int32) : Nat → Nat → Int32 := up (up (up h 1 nb c) 2 nb n) 3 nb a
def adlR (h : Nat → Nat → Int32) (nl : Nat) (b w q : Int32) : Nat → Nat → Int32 := up (up (up h 6 nl b) 7 nl w) 8 nl q
theorem sub_step (w a f : Int32) : w - a - f = w - (a + f) := by
  apply Int32.toBitVec_inj.mp
  simp only [Int32.toBitVec_sub, Int32.toBitVec_add]
  bv_omega
theorem cntN_mono {P : Nat → Bool} : ∀ {a b : Nat}, a ≤ b → cntN P a ≤ cntN P b
  | a, 0, h => by rw [show a = 0 by omega]; exact Nat.le_refl _
  | a, b + 1, h => by
    rcases Nat.lt_or_ge b a with q | q
    · rw [show a = b + 1 by omega]; exact Nat.le_refl _
    · have := cntN_mono (P := P) q
      show _ ≤ (if P b = true then cntN P b + 1 else cntN P b)
      split <;> omega
def numR (h : Nat → Nat → Int32) (nb : Nat) (x y : Int32) : Int32 := lasN (fun b => decide (h 1 b = x) && decide (h 2 b = y)) nb
def prvR (h : Nat → Nat → Int32) (nx : Nat) (x : Int32) : Int32 := lasN (fun k => decide (h 14 k = x)) nx
def firR (h : Nat → Nat → Int32) (nx : Nat) : Nat → Nat → Nat
  | 0, k => k
  | f + 1, k => if prvR h nx (nI k) < 0 then k else firR h nx f (ix (prvR h nx (nI k)))
theorem firR_neg {h : Nat → Nat → Int32} {nx f k r : Nat} (hf : r < f) (hn : prvR h nx (nI k) < 0) : firR h nx f k = k := by
  obtain ⟨q, rfl⟩ : ∃ q, f = q + 1 := ⟨f - 1, by omega⟩
  exact if_pos hn
/-- no rings: a rank falls along the way back -/
def rkOk (h : Nat → Nat → Int32) (nx : Nat) (rk : Nat → Nat) : Prop := ∀ k, k < nx → rk k < 60 ∧ ∀ p, p < nx → prvR h nx (nI k) = nI p → rk p < rk k
theorem lasN_ix {P : Nat → Bool} : ∀ {n : Nat}, n < 2 ^ 31 → ¬ lasN P n < 0 → ∃ j, j < n ∧ P j = true ∧ lasN P n = nI j
  | 0, _, h => absurd (show (-1 : Int32) < 0 by decide) h
  | n + 1, hn, h => by
    by_cases hp : P n = true
    · exact ⟨n, Nat.lt_succ_self n, hp, if_pos hp⟩
    · have e : lasN P (n + 1) = lasN P n := if_neg hp
      rw [e] at h ⊢
      obtain ⟨j, a, b, c⟩ := lasN_ix (by omega) h
      exact ⟨j, Nat.lt_succ_of_lt a, b, c⟩
theorem bofR_pos {o : Nat → Bool} {nb k b : Nat} (hb : b < nb) (h : o (60 * k + b) = true) : 0 < bofR o nb k := by
  have h1 : cntN (fun b => o (60 * k + b)) (b + 1) = cntN (fun b => o (60 * k + b)) b + 1 := cntN_t (P := fun b => o (60 * k + b)) h
  have h2 : cntN (fun b => o (60 * k + b)) (b + 1) ≤ cntN (fun b => o (60 * k + b)) nb := cntN_mono (by omega)
  show 0 < cntN (fun b => o (60 * k + b)) nb
  omega
def likE (df : Nat) (ex : Bool) : Bool := if df < 2 then true else if df = 2 then (if ex = true then true else false) else false
def likL : Nat → Nat → Bool → Nat → Nat → Bool
  | 0, df, ex, _, _ => likE df ex
  | f + 1, df, ex, a, b => likL f (if a % 10 = b % 10 then df else df + 1) (if ex = true then true else if a % 10 = b % 10 then false else if a % 10 = b / 10 % 10 then (if b % 10 = a / 10 % 10 then true else false) else false) (a / 10) (b / 10)
def dgP (h : Nat → Nat → Int32) (nb nl m : Nat) : Nat → Bool := fun b => decide (masF (h 3) 60 b = m) && !decide (difR h nb nl (nI b) = 0)
def dgR (h : Nat → Nat → Int32) (nb nl : Nat) : Nat := cntN (fun m => anyN (dgP h nb nl m) nb) nb
theorem masF_lt {f3 : Nat → Int32} {nb : Nat} (ha : abvOk f3 nb) (hn : nb ≤ 60) : ∀ (f k : Nat), k < nb → masF f3 f k < nb
  | 0, k, h => h
  | f + 1, k, h => by
    show (if f3 k < 0 then k else masF f3 f (ix (f3 k))) < nb
    split
    · exact h
    · rename_i h1
      rcases ha k h with e | ⟨j, hj, e⟩
      · exact absurd (by rw [e]; decide) h1
      · rw [e, ix_nI (by omega)]
        exact masF_lt ha hn f j (by omega)
section TLR
variable {p : Program} {l : Launch} {e : Env} {R : Room} {s : State} {m : MethodId} {args : Array Value} {below : List Frame} {meth : Method} {c : Code} {H : Heap} {locs : List Loc} {cells slots : Nat} {Q : State → Prop}
variable {cc : ByteArray} {pc : Nat} {ls : Array Slot} {rest st0 : List Value} {D : va_G} {cl : List vw_C} {A : Nat → Prop} {a : Nat} {tys : List (ClassId × FieldType)} {ws : va_W} {H0 : Heap}
theorem q_zald (hexec : p.tables.exec = Jvm.exec) (hb : c.code = cc) (hK : va_K D cl tys s) (hP : va_P D cl ws H) (q0 t0 : Nat) {cA : ClassId} {n : Nat} {f : Nat → Int32} (ha : ws[q0]? = some (a, .inl (cA, n, .inl f))) (ht : tys[t0]? = some (cA, .boolean)) (k : Nat) (hk : k < n) (hn : n < 2 ^ 31) (hdg : decode cc pc = .ok (.baload, 1))
    (kk : W p l e R s m args below meth c H locs cells slots Q (F0 m (pc + 1) ls (.int (f k) :: rest))) : W p l e R s m args below meth c H locs cells slots Q (F0 m pc ls (.int (nI k) :: .ref a :: rest)) := by
  refine va_zald hexec hb hK hP q0 t0 ha ht (vp_in_nI hk hn) hdg ?_
  rw [nI_clamp (Nat.lt_trans hk hn)]; exact kk
theorem q_zast1 {o : Nat → Bool} (hexec : p.tables.exec = Jvm.exec) (hb : c.code = cc) (hK : va_K D cl tys s) (hP : va_P D cl ws H) (hD : va_D A ws) (hS : va_S A H0 H locs) (q0 t0 : Nat) {cA : ClassId} {n : Nat} (ha : ws[q0]? = some (a, .inl (cA, n, .inl (fun q => bI (o q))))) (ht : tys[t0]? = some (cA, .boolean)) (k : Nat) (hk : k < n) (hn : n < 2 ^ 31) (hdg : decode cc pc = .ok (.bastore, 1))
    (kk : ∀ (H1 : Heap) (locs1 : List Loc), va_P D cl (ws.set q0 (a, .inl (cA, n, .inl (fun q => bI (updO o k q))))) H1 → va_D A (ws.set q0 (a, .inl (cA, n, .inl (fun q => bI (updO o k q))))) → va_S A H0 H1 locs1 → W p l e R s m args below meth c H1 locs1 cells slots Q (F0 m (pc + 1) ls rest)) : W p l e R s m args below meth c H locs cells slots Q (F0 m pc ls (.int 1 :: .int (nI k) :: .ref a :: rest)) := by
  refine va_zast hexec hb hK hP hD hS q0 t0 ha ht (vp_in_nI hk hn) hdg ?_
  have e1 : upd (fun q => bI (o q)) k (vp_nar .boolean 1) = fun q => bI (updO o k q) := by
    funext q
    unfold upd updO
    by_cases h : q = k
    · rw [if_pos h, if_pos h]; rfl
    · rw [if_neg h, if_neg h]
  rw [nI_clamp (Nat.lt_trans hk hn), e1]; exact kk
end TLR
def wK (an : Nat → Nat) (kn : Nat → ClassId) (h : Nat → Nat → Int32) (o : Nat → Bool) (u : Nat → Int32) : va_W := [(an 0, .inr (4, [.int (u 0), .int (u 1), .int (u 2), .int (u 3), .int (u 4), .int (u 5), .int (u 6), .ref (an 1), .ref (an 2), .ref (an 3), .ref (an 4), .ref (an 5), .ref (an 6), .ref (an 7), .ref (an 8), .ref (an 9), .ref (an 10), .ref (an 11), .ref (an 12), .ref (an 13), .ref (an 14), .ref (an 15)])),
  (an 1, .inl (kn 1, 60, .inl (h 1))),
  (an 2, .inl (kn 2, 60, .inl (h 2))),
  (an 3, .inl (kn 3, 60, .inl (h 3))),
  (an 4, .inl (kn 4, 60, .inl (h 4))),
  (an 5, .inl (kn 5, 60, .inl (h 5))),
  (an 6, .inl (kn 6, 200, .inl (h 6))),
  (an 7, .inl (kn 7, 200, .inl (h 7))),
  (an 8, .inl (kn 8, 200, .inl (h 8))),
  (an 9, .inl (kn 9, 60, .inl (h 9))),
  (an 10, .inl (kn 10, 60, .inl (h 10))),
  (an 11, .inl (kn 11, 60, .inl (h 11))),
  (an 12, .inl (kn 12, 60, .inl (h 12))),
  (an 13, .inl (kn 13, 60, .inl (h 13))),
  (an 14, .inl (kn 14, 60, .inl (h 14))),
  (an 15, .inl (kn 15, 3600, .inl fun q => bI (o q)))]
def tK (kn : Nat → ClassId) : List (ClassId × FieldType) := [(kn 1, .int), (kn 2, .int), (kn 3, .int), (kn 4, .int), (kn 5, .int), (kn 6, .int), (kn 7, .int), (kn 8, .int), (kn 9, .int), (kn 10, .int), (kn 11, .int), (kn 12, .int), (kn 13, .int), (kn 14, .int), (kn 15, .boolean)]
theorem wK_D {A : Nat → Prop} {an : Nat → Nat} {kn : Nat → ClassId} {h h2 : Nat → Nat → Int32} {o o2 : Nat → Bool} {u u2 : Nat → Int32} (q : va_D A (wK an kn h o u)) : va_D A (wK an kn h2 o2 u2) := D_fst (w := wK an kn h o u) rfl q
