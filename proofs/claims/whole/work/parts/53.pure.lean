/-! Pure: lines -/
theorem natS_mem {a : Nat → Nat} {i : Nat} : ∀ {n : Nat}, i < n → a i ≤ natS a n
  | 0, h => absurd h (Nat.not_lt_zero _)
  | n + 1, h => by
    show a i ≤ natS a n + a n
    rcases Nat.lt_or_ge i n with q | q
    · have := natS_mem (a := a) q
      omega
    · rw [show i = n by omega]; omega
theorem natS_ext {a b : Nat → Nat} {n : Nat} (h : ∀ i, i < n → b i = a i) : natS b (n + 1) = natS a n + b n := by
  show natS b n + b n = _
  rw [natS_congr h]
/-- weights of lines, and what the class keeps of them -/
def LW (g h : Nat → Nat → Int32) (nl : Nat) (cap : Nat → Nat) : Prop :=
  (∀ i, i < nl → g 10 i = h 6 i ∧ g 11 i = h 7 i ∧ ∃ w, w ≤ cap i ∧ h 7 i = nI w) ∧ ∀ b, b < 60 → g 13 b = wofR h nl (nI b)
theorem LW_chg {g h : Nat → Nat → Int32} {nl i k w : Nat} {cap : Nat → Nat} (H : LW g h nl cap) (hi : i < nl) (hk : k < 60) (e : h 6 i = nI k) (hw : w ≤ cap i) : LW (chgN g i (nI w) k) (up h 7 i (nI w)) nl cap := by
  obtain ⟨H1, H2⟩ := H
  refine ⟨fun j hj => ?_, fun b hb => ?_⟩
  · obtain ⟨a1, a2, w0, a3, a4⟩ := H1 j hj
    refine ⟨by simp only [chgN, up_app]; simpa using a1, ?_, ?_⟩
    · simp only [chgN, up_app]
      by_cases q : j = i
      · simp [q]
      · simp [q, a2]
    · by_cases q : j = i
      · subst q
        exact ⟨w, hw, by simp [up_app]⟩
      · exact ⟨w0, a3, by rw [up_k q]; exact a4⟩
  · have h6 : (up h 7 i (nI w)) 6 = h 6 := up_o (by decide)
    have hs : wofR (up h 7 i (nI w)) nl (nI b) = wofR h nl (nI b) + ((if h 6 i = nI b then nI w else 0) - (if h 6 i = nI b then h 7 i else 0)) := by
      unfold wofR
      rw [h6]
      have := sumN_upd (f := fun k => if h 6 k = nI b then h 7 k else 0) (f' := fun k => if h 6 k = nI b then up h 7 i (nI w) 7 k else 0) (k := i) (fun j hj => by simp only [up_k hj]) hi
      rw [this, up_s]
    rw [hs, e]
    by_cases q : b = k
    · subst q
      rw [if_pos rfl, if_pos rfl]
      have h13 : chgN g i (nI w) b 13 b = g 13 b + (nI w - g 11 i) := by simp [chgN, up_app]
      rw [h13, H2 b hb, (H1 i hi).2.1]
    · have hne : ¬ nI k = nI b := fun z => q ((nI_eq (by omega) (by omega)).mp z).symm
      rw [if_neg hne, if_neg hne]
      have h13 : chgN g i (nI w) k 13 b = g 13 b := by simp [chgN, up_app, q]
      rw [h13, H2 b hb]
      simp
theorem spK_0 {x : Int32} {nl : Nat} : ∀ (i : Nat) (h : Nat → Nat → Int32), (∀ q, q < nl → 0 ≤ h 7 q) → i ≤ cntN (fun k => decide (h 6 k = x)) nl → spK x nl i 0 h = h
  | 0, _, _, _ => rfl
  | i + 1, h, hw, hi => by
    obtain ⟨a, -, -⟩ := lnAt_ok (P := fun k => decide (h 6 k = x)) (i := i) (n := nl) (by omega)
    show spK x nl i (0 - (if (0 : Int32) ≤ h 7 (lnAt (fun k => decide (h 6 k = x)) i nl) then 0 else h 7 (lnAt (fun k => decide (h 6 k = x)) i nl))) (up h 7 (lnAt (fun k => decide (h 6 k = x)) i nl) (h 7 (lnAt (fun k => decide (h 6 k = x)) i nl) - (if (0 : Int32) ≤ h 7 (lnAt (fun k => decide (h 6 k = x)) i nl) then 0 else h 7 (lnAt (fun k => decide (h 6 k = x)) i nl)))) = h
    rw [if_pos (hw _ a), Int32.sub_self, Int32.sub_zero, up_self]
    exact spK_0 i h hw (by omega)
theorem nI_sub {a b : Nat} (h : b ≤ a) : nI a - nI b = nI (a - b) := by
  obtain ⟨d, rfl⟩ : ∃ d, a = d + b := ⟨a - b, by omega⟩
  rw [Nat.add_sub_cancel, ← nI_add]
  exact Int32.add_sub_cancel _ _
theorem min_i {a m : Nat} (ha : a < 2 ^ 31) (hm : m < 2 ^ 31) : (if nI m ≤ nI a then nI m else nI a) = nI (if m ≤ a then m else a) ∧ (if nI a < nI m then nI a else nI m) = nI (if m ≤ a then m else a) := by
  by_cases q : m ≤ a
  · rw [if_pos q, if_pos (nI_le q ha), if_neg (nI_nlt q ha)]
    exact ⟨rfl, rfl⟩
  · rw [if_neg q, if_neg (nI_ge (by omega) hm), if_pos (nI_lt (by omega) hm)]
    exact ⟨rfl, rfl⟩
theorem take_ok {k nl : Nat} {cap : Nat → Nat} (hk : k < 60) (hl : nl ≤ 200) (hcap : ∀ i, i < nl → cap i < 2 ^ 31) : ∀ (r m : Nat) (g h : Nat → Nat → Int32), r ≤ nl → m < 2 ^ 31 → LW g h nl cap → LW (takN k r (nI m) g) (spK (nI k) nl (cntN (fun q => decide (h 6 q = nI k)) r) (nI m) h) nl cap
  | 0, m, g, h, _, _, H => H
  | r + 1, m, g, h, hr, hm, H => by
    show LW (if nI m ≤ 0 then g else if g 10 r = nI k then takN k r (nI m - (if g 11 r < nI m then g 11 r else nI m)) (chgN g r (g 11 r - (if g 11 r < nI m then g 11 r else nI m)) k) else takN k r (nI m) g) _ nl cap
    have hnn : ∀ q, q < nl → 0 ≤ h 7 q := fun q hq => by
      obtain ⟨-, -, w, hw, e⟩ := H.1 q hq
      have := hcap q hq
      rw [e]; exact nI_pos' (by omega)
    rcases Nat.eq_zero_or_pos m with q | q
    · subst q
      rw [if_pos (show nI 0 ≤ 0 by decide)]
      have e0 : nI 0 = 0 := nI_0
      rw [e0, spK_0 _ h hnn (cntN_mono hr)]
      exact H
    · rw [if_neg (show ¬ nI m ≤ 0 from nI_ge (a := 0) q hm)]
      obtain ⟨a1, a2, w, hw, a3⟩ := H.1 r (by omega)
      have hcr := hcap r (by omega)
      rw [a1]
      by_cases hp : h 6 r = nI k
      · rw [if_pos hp]
        have hP : (fun q => decide (h 6 q = nI k)) r = true := by simp [hp]
        rw [cntN_t (P := fun q => decide (h 6 q = nI k)) hP]
        have hlt : cntN (fun q => decide (h 6 q = nI k)) r < cntN (fun q => decide (h 6 q = nI k)) nl := cntN_lt (by omega) hP
        obtain ⟨b1, b2, b3⟩ := lnAt_ok hlt
        have hln : lnAt (fun q => decide (h 6 q = nI k)) (cntN (fun q => decide (h 6 q = nI k)) r) nl = r := cnt_uniq b2 hP b3
        show LW _ (spK (nI k) nl (cntN (fun q => decide (h 6 q = nI k)) r) (nI m - (if nI m ≤ h 7 (lnAt (fun q => decide (h 6 q = nI k)) (cntN (fun q => decide (h 6 q = nI k)) r) nl) then nI m else h 7 (lnAt (fun q => decide (h 6 q = nI k)) (cntN (fun q => decide (h 6 q = nI k)) r) nl))) (up h 7 (lnAt (fun q => decide (h 6 q = nI k)) (cntN (fun q => decide (h 6 q = nI k)) r) nl) (h 7 (lnAt (fun q => decide (h 6 q = nI k)) (cntN (fun q => decide (h 6 q = nI k)) r) nl) - (if nI m ≤ h 7 (lnAt (fun q => decide (h 6 q = nI k)) (cntN (fun q => decide (h 6 q = nI k)) r) nl) then nI m else h 7 (lnAt (fun q => decide (h 6 q = nI k)) (cntN (fun q => decide (h 6 q = nI k)) r) nl))))) nl cap
        rw [hln, a2, a3, (min_i (a := w) (m := m) (by omega) hm).1, (min_i (a := w) (m := m) (by omega) hm).2]
        have t1 : (if m ≤ w then m else w) ≤ m := by split <;> omega
        have t2 : (if m ≤ w then m else w) ≤ w := by split <;> omega
        rw [nI_sub t1, nI_sub t2]
        have H' : LW (chgN g r (nI (w - if m ≤ w then m else w)) k) (up h 7 r (nI (w - if m ≤ w then m else w))) nl cap := LW_chg H (by omega) hk hp (by omega)
        have ih := take_ok hk hl hcap r (m - if m ≤ w then m else w) _ _ (by omega) (by omega) H'
        have h6 : (up h 7 r (nI (w - if m ≤ w then m else w))) 6 = h 6 := up_o (by decide)
        rw [h6] at ih
        exact ih
      · rw [if_neg hp, cntN_f (P := fun q => decide (h 6 q = nI k)) (by simp [hp])]
        exact take_ok hk hl hcap r m g h (by omega) hm H
/-- the lines on both sides -/
def RL (g h : Nat → Nat → Int32) (nb nl : Nat) : Prop :=
  ∃ cap : Nat → Nat, LW g h nl cap ∧ (∀ i, i < nl → 1000000 ≤ cap i ∧ ∃ j, j < nb ∧ h 6 i = nI j) ∧ (∀ b, b < 60 → natS (fun i => if h 6 i = nI b then cap i else 0) nl ≤ 1000000 * nl) ∧ ∀ b, b < 60 → g 12 b = nI (lofR h nl (nI b)) ∧ g 14 b = pofR h nl (nI b)
theorem wofR_eq {h h' : Nat → Nat → Int32} {nl : Nat} {x : Int32} (h6 : h' 6 = h 6) (h7 : h' 7 = h 7) : wofR h' nl x = wofR h nl x := by unfold wofR; rw [h6, h7]
theorem pofR_eq {h h' : Nat → Nat → Int32} {nl : Nat} {x : Int32} (h6 : h' 6 = h 6) (h8 : h' 8 = h 8) : pofR h' nl x = pofR h nl x := by unfold pofR; rw [h6, h8]
theorem lofR_eq {h h' : Nat → Nat → Int32} {nl : Nat} {x : Int32} (h6 : h' 6 = h 6) : lofR h' nl x = lofR h nl x := by unfold lofR; rw [h6]
theorem LW_of {g g' h h' : Nat → Nat → Int32} {nl : Nat} {cap : Nat → Nat} (e10 : g' 10 = g 10) (e11 : g' 11 = g 11) (e13 : g' 13 = g 13) (h6 : h' 6 = h 6) (h7 : h' 7 = h 7) (H : LW g h nl cap) : LW g' h' nl cap := by
  unfold LW at H ⊢
  rw [e10, e11, e13, h6, h7]
  exact ⟨H.1, fun b hb => by rw [wofR_eq h6 h7]; exact H.2 b hb⟩
theorem RL_of {g g' h h' : Nat → Nat → Int32} {nb nl : Nat} (e : ∀ j, 10 ≤ j → j < 15 → g' j = g j) (e2 : ∀ j, 6 ≤ j → j < 9 → h' j = h j) (H : RL g h nb nl) : RL g' h' nb nl := by
  obtain ⟨cap, H1, H2, H3, H4⟩ := H
  have h6 := e2 6 (by decide) (by decide)
  refine ⟨cap, LW_of (e 10 (by decide) (by decide)) (e 11 (by decide) (by decide)) (e 13 (by decide) (by decide)) h6 (e2 7 (by decide) (by decide)) H1, ?_, ?_, fun b hb => ?_⟩
  · rw [h6]; exact H2
  · rw [h6]; exact H3
  · rw [lofR_eq h6, pofR_eq h6 (e2 8 (by decide) (by decide)), e 12 (by decide) (by decide), e 14 (by decide) (by decide)]
    exact H4 b hb
theorem RL_nb {g h : Nat → Nat → Int32} {nb nb' nl : Nat} (hn : nb ≤ nb') (H : RL g h nb nl) : RL g h nb' nl := by
  obtain ⟨cap, H1, H2, H3, H4⟩ := H
  exact ⟨cap, H1, fun i hi => ⟨(H2 i hi).1, (H2 i hi).2.elim fun j hj => ⟨j, by omega, hj.2⟩⟩, H3, H4⟩
theorem cap_lt {h : Nat → Nat → Int32} {nb nl : Nat} {cap : Nat → Nat} (hn : nb ≤ 60) (hl : nl ≤ 200) (H2 : ∀ i, i < nl → 1000000 ≤ cap i ∧ ∃ j, j < nb ∧ h 6 i = nI j) (H3 : ∀ b, b < 60 → natS (fun i => if h 6 i = nI b then cap i else 0) nl ≤ 1000000 * nl) {i : Nat} (hi : i < nl) : cap i ≤ 200000000 := by
  obtain ⟨-, j, hj, e⟩ := H2 i hi
  have h1 := H3 j (by omega)
  have h2 := natS_mem (a := fun i => if h 6 i = nI j then cap i else 0) hi
  simp only [if_pos e] at h2
  omega
/-- what a bill weighs -/
theorem RL_wt {g h : Nat → Nat → Int32} {nb nl : Nat} (hl : nl ≤ 200) (H : RL g h nb nl) {b : Nat} (hb : b < 60) : ∃ w, w ≤ 1000000 * nl ∧ wofR h nl (nI b) = nI w := by
  obtain ⟨cap, H1, H2, H3, -⟩ := H
  have hw : ∀ i : Nat, ∃ w, i < nl → (w ≤ cap i ∧ h 7 i = nI w) := fun i => by
    by_cases q : i < nl
    · obtain ⟨-, -, w, a, b⟩ := H1.1 i q
      exact ⟨w, fun _ => ⟨a, b⟩⟩
    · exact ⟨0, fun z => absurd z q⟩
  let wt : Nat → Nat := fun i => (hw i).choose
  have hwt : ∀ i, i < nl → wt i ≤ cap i ∧ h 7 i = nI (wt i) := fun i => (hw i).choose_spec
  refine ⟨natS (fun i => if h 6 i = nI b then wt i else 0) nl, ?_, ?_⟩
  · refine Nat.le_trans (natS_le (fun i hi => ?_)) (H3 b hb)
    have := (hwt i hi).1
    by_cases q : h 6 i = nI b
    · rw [if_pos q, if_pos q]; exact this
    · rw [if_neg q, if_neg q]; exact Nat.le_refl 0
  · refine sumN_nat (fun i hi => ?_)
    by_cases q : h 6 i = nI b
    · rw [if_pos q, if_pos q]; exact (hwt i hi).2
    · rw [if_neg q, if_neg q]; exact nI_0.symm
theorem RL_chg {g h : Nat → Nat → Int32} {nb nl i k w : Nat} (H : RL g h nb nl) (hi : i < nl) (hk : k < 60) (e : h 6 i = nI k) (hw : w ≤ 1000000) : RL (chgN g i (nI w) k) (up h 7 i (nI w)) nb nl := by
  obtain ⟨cap, H1, H2, H3, H4⟩ := H
  have h6 : (up h 7 i (nI w)) 6 = h 6 := up_o (by decide)
  have g12 : chgN g i (nI w) k 12 = g 12 := by unfold chgN; rw [up_o (by decide), up_o (by decide)]
  have g14 : chgN g i (nI w) k 14 = g 14 := by unfold chgN; rw [up_o (by decide), up_o (by decide)]
  refine ⟨cap, LW_chg H1 hi hk e (Nat.le_trans hw (H2 i hi).1), ?_, ?_, fun b hb => ?_⟩
  · rw [h6]; exact H2
  · rw [h6]; exact H3
  · rw [g12, g14, lofR_eq h6, pofR_eq h6 (up_o (by decide))]; exact H4 b hb
/-- lines with fewer kilograms -/
theorem RL_take {g h : Nat → Nat → Int32} {nb nl k m : Nat} (H : RL g h nb nl) (hn : nb ≤ 60) (hl : nl ≤ 200) (hk : k < 60) (hm : m < 2 ^ 31) : RL (takN k nl (nI m) g) (spK (nI k) nl (lofR h nl (nI k)) (nI m) h) nb nl := by
  obtain ⟨cap, H1, H2, H3, H4⟩ := H
  have h6 : ∀ i lf, (spK (nI k) nl i lf h) 6 = h 6 := fun i lf => spK_at (by decide) i lf h
  refine ⟨cap, take_ok hk hl (fun i hi => by have := cap_lt hn hl H2 H3 hi; omega) nl m g h (Nat.le_refl _) hm H1, ?_, ?_, fun b hb => ?_⟩
  · rw [h6]; exact H2
  · rw [h6]; exact H3
  · rw [takN_at (by decide) (by decide), takN_at (by decide) (by decide), lofR_eq (h6 _ _), pofR_eq (h6 _ _) (spK_at (by decide) _ _ h)]
    exact H4 b hb
/-- one line more, on a bill whose caps leave room -/
theorem RL_add {g h : Nat → Nat → Int32} {nb nl k w : Nat} {q : Int32} (H : RL g h nb nl) (hn : nb ≤ 60) (hl : nl < 200) (hk : k < nb) (hw : w ≤ 1000000 ∨ ((∀ i, i < nl → ¬ h 6 i = nI k) ∧ w ≤ 1000000 * nl)) : RL (addN g nl k (nI w) q) (adlR h nl (nI k) (nI w) q) nb (nl + 1) := by
  obtain ⟨cap, H1, H2, H3, H4⟩ := H
  have gl : ∀ j i, j < 12 → i < nl → addN g nl k (nI w) q j i = g j i := fun j i hj hi => by
    unfold addN
    rw [up_o (by omega), up_o (by omega), up_o (by omega), up_k (by omega), up_k (by omega)]
  have hlo : ∀ j i, i < nl → adlR h nl (nI k) (nI w) q j i = h j i := fun j i hi => by
    unfold adlR
    rw [up_k (by omega), up_k (by omega), up_k (by omega)]
  have n6 : adlR h nl (nI k) (nI w) q 6 nl = nI k := by simp [adlR, up_app]
  have n7 : adlR h nl (nI k) (nI w) q 7 nl = nI w := by simp [adlR, up_app]
  have n8 : adlR h nl (nI k) (nI w) q 8 nl = q := by simp [adlR, up_app]
  have eqk : ∀ b, b < 60 → (nI k = nI b ↔ k = b) := fun b hb => nI_eq (by omega) (by omega)
  obtain ⟨c9, c1, c2⟩ : ∃ c : Nat → Nat, (∀ i, i < nl → c i = cap i) ∧ c nl = (if w ≤ 1000000 then 1000000 else w) := ⟨fun i => if i = nl then (if w ≤ 1000000 then 1000000 else w) else cap i, fun i hi => if_neg (by omega), if_pos rfl⟩
  refine ⟨c9, ⟨fun i hi => ?_, fun b hb => ?_⟩, fun i hi => ?_, fun b hb => ?_, fun b hb => ?_⟩
  · rcases Nat.lt_or_ge i nl with p | p
    · rw [gl 10 i (by decide) p, gl 11 i (by decide) p, hlo 6 i p, hlo 7 i p, c1 i p]
      exact H1.1 i p
    · rw [show i = nl by omega, n6, n7, c2]
      exact ⟨by simp [addN, up_app], by simp [addN, up_app], w, by split <;> omega, rfl⟩
  · have e1 : wofR (adlR h nl (nI k) (nI w) q) (nl + 1) (nI b) = wofR h nl (nI b) + (if nI k = nI b then nI w else 0) := by
      show sumN (fun i => if adlR h nl (nI k) (nI w) q 6 i = nI b then adlR h nl (nI k) (nI w) q 7 i else 0) nl + (if adlR h nl (nI k) (nI w) q 6 nl = nI b then adlR h nl (nI k) (nI w) q 7 nl else 0) = _
      rw [n6, n7, sumN_congr (fun i hi => by rw [hlo 6 i hi, hlo 7 i hi] : ∀ i, i < nl → _ = (fun i => if h 6 i = nI b then h 7 i else 0) i)]
      rfl
    rw [e1, ← H1.2 b hb]
    by_cases p : k = b
    · subst p
      rw [if_pos rfl]
      simp [addN, up_app]
    · rw [if_neg (fun z => p ((eqk b hb).mp z))]
      have : addN g nl k (nI w) q 13 b = g 13 b := by simp [addN, up_app, Ne.symm p]
      rw [this]; simp
  · rcases Nat.lt_or_ge i nl with p | p
    · rw [c1 i p, hlo 6 i p]
      exact H2 i p
    · rw [show i = nl by omega, n6, c2]
      exact ⟨by split <;> omega, k, hk, rfl⟩
  · have e1 : natS (fun i => if adlR h nl (nI k) (nI w) q 6 i = nI b then c9 i else 0) (nl + 1) = natS (fun i => if h 6 i = nI b then cap i else 0) nl + (if nI k = nI b then (if w ≤ 1000000 then 1000000 else w) else 0) := by
      rw [natS_ext (a := fun i => if h 6 i = nI b then cap i else 0) (fun i hi => by
        show (if adlR h nl (nI k) (nI w) q 6 i = nI b then c9 i else 0) = (if h 6 i = nI b then cap i else 0)
        rw [hlo 6 i hi, c1 i hi])]
      show _ + (if adlR h nl (nI k) (nI w) q 6 nl = nI b then c9 nl else 0) = _
      rw [n6, c2]
    rw [e1]
    have h3 := H3 b hb
    by_cases p : k = b
    · subst p
      rw [if_pos rfl]
      rcases hw with hw | ⟨hz, hw⟩
      · rw [if_pos hw]; omega
      · rw [natS_zero (fun i hi => if_neg (hz i hi))]
        split <;> omega
    · rw [if_neg (fun z => p ((eqk b hb).mp z))]; omega
  · have e1 : lofR (adlR h nl (nI k) (nI w) q) (nl + 1) (nI b) = lofR h nl (nI b) + (if nI k = nI b then 1 else 0) := by
      unfold lofR
      have hc : cntN (fun i => decide (adlR h nl (nI k) (nI w) q 6 i = nI b)) nl = cntN (fun i => decide (h 6 i = nI b)) nl := cntN_congr (fun i hi => by rw [hlo 6 i hi])
      by_cases p : nI k = nI b
      · rw [if_pos p, cntN_t (P := fun i => decide (adlR h nl (nI k) (nI w) q 6 i = nI b)) (by rw [decide_eq_true_eq, n6]; exact p), hc]
      · rw [if_neg p, cntN_f (P := fun i => decide (adlR h nl (nI k) (nI w) q 6 i = nI b)) (by rw [decide_eq_false_iff_not, n6]; exact p), hc]
        rfl
    have e2 : pofR (adlR h nl (nI k) (nI w) q) (nl + 1) (nI b) = pofR h nl (nI b) + (if nI k = nI b then q else 0) := by
      show sumN (fun i => if adlR h nl (nI k) (nI w) q 6 i = nI b then adlR h nl (nI k) (nI w) q 8 i else 0) nl + (if adlR h nl (nI k) (nI w) q 6 nl = nI b then adlR h nl (nI k) (nI w) q 8 nl else 0) = _
      rw [n6, n8, sumN_congr (fun i hi => by rw [hlo 6 i hi, hlo 8 i hi] : ∀ i, i < nl → _ = (fun i => if h 6 i = nI b then h 8 i else 0) i)]
      rfl
    rw [e1, e2, ← (H4 b hb).2]
    have h12 := (H4 b hb).1
    by_cases p : k = b
    · subst p
      rw [if_pos rfl, if_pos rfl, ← nI_1, ← h12]
      exact ⟨by simp [addN, up_app], by simp [addN, up_app]⟩
    · rw [if_neg (fun z => p ((eqk b hb).mp z)), if_neg (fun z => p ((eqk b hb).mp z)), Nat.add_zero, ← h12]
      have z1 : addN g nl k (nI w) q 12 b = g 12 b := by simp [addN, up_app, Ne.symm p]
      have z2 : addN g nl k (nI w) q 14 b = g 14 b := by simp [addN, up_app, Ne.symm p]
      rw [z1, z2]
      exact ⟨rfl, by simp⟩
