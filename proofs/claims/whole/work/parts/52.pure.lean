/-! Pure: chains of bills -/
theorem up_app (g : Nat → Nat → Int32) (a k j i : Nat) (x : Int32) : up g a k x j i = if j = a ∧ i = k then x else g j i := by
  by_cases h : j = a
  · subst h
    by_cases q : i = k
    · subst q; rw [up_s, if_pos ⟨rfl, rfl⟩]
    · rw [up_n q, if_neg (fun z => q z.2)]
  · rw [up_o h, if_neg (fun z => h z.1)]
theorem up_k {g : Nat → Nat → Int32} {a k j i : Nat} {x : Int32} (h : i ≠ k) : up g a k x j i = g j i := by rw [up_app, if_neg (fun z => h z.2)]
theorem m1_neg : (-1 : Int32) < 0 := by decide
theorem depF_fuel {f3 : Nat → Int32} {nb : Nat} (ha : abvOk f3 nb) (hn : nb ≤ 60) : ∀ (f f' k : Nat), k < nb → k < f → k < f' → depF f3 f k = depF f3 f' k
  | 0, _, _, _, h, _ => absurd h (by omega)
  | f + 1, 0, _, _, _, h => absurd h (by omega)
  | f + 1, f' + 1, k, hk, h1, h2 => by
    show (if f3 k < 0 then 1 else depF f3 f (ix (f3 k)) + 1) = (if f3 k < 0 then 1 else depF f3 f' (ix (f3 k)) + 1)
    rcases ha k hk with e | ⟨j, hj, e⟩
    · rw [e, if_pos m1_neg, if_pos m1_neg]
    · rw [e, ix_nI (by omega), depF_fuel ha hn f f' j (by omega) (by omega) (by omega)]
theorem masF_fuel {f3 : Nat → Int32} {nb : Nat} (ha : abvOk f3 nb) (hn : nb ≤ 60) : ∀ (f f' k : Nat), k < nb → k < f → k < f' → masF f3 f k = masF f3 f' k
  | 0, _, _, _, h, _ => absurd h (by omega)
  | f + 1, 0, _, _, _, h => absurd h (by omega)
  | f + 1, f' + 1, k, hk, h1, h2 => by
    show (if f3 k < 0 then k else masF f3 f (ix (f3 k))) = (if f3 k < 0 then k else masF f3 f' (ix (f3 k)))
    rcases ha k hk with e | ⟨j, hj, e⟩
    · rw [e, if_pos m1_neg, if_pos m1_neg]
    · rw [e, ix_nI (by omega), masF_fuel ha hn f f' j (by omega) (by omega) (by omega)]
theorem depF_cg {f3 f4 : Nat → Int32} {nb : Nat} (ha : abvOk f3 nb) (hn : nb ≤ 60) (he : ∀ j, j < nb → f4 j = f3 j) : ∀ (f k : Nat), k < nb → depF f4 f k = depF f3 f k
  | 0, _, _ => rfl
  | f + 1, k, hk => by
    show (if f4 k < 0 then 1 else depF f4 f (ix (f4 k)) + 1) = (if f3 k < 0 then 1 else depF f3 f (ix (f3 k)) + 1)
    rw [he k hk]
    rcases ha k hk with e | ⟨j, hj, e⟩
    · rw [e, if_pos m1_neg, if_pos m1_neg]
    · rw [e, ix_nI (by omega), depF_cg ha hn he f j (by omega)]
theorem masF_cg {f3 f4 : Nat → Int32} {nb : Nat} (ha : abvOk f3 nb) (hn : nb ≤ 60) (he : ∀ j, j < nb → f4 j = f3 j) : ∀ (f k : Nat), k < nb → masF f4 f k = masF f3 f k
  | 0, _, _ => rfl
  | f + 1, k, hk => by
    show (if f4 k < 0 then k else masF f4 f (ix (f4 k))) = (if f3 k < 0 then k else masF f3 f (ix (f3 k)))
    rw [he k hk]
    rcases ha k hk with e | ⟨j, hj, e⟩
    · rw [e, if_pos m1_neg, if_pos m1_neg]
    · rw [e, ix_nI (by omega), masF_cg ha hn he f j (by omega)]
theorem depF_step {f3 : Nat → Int32} {nb k j : Nat} (ha : abvOk f3 nb) (hn : nb ≤ 60) (hk : k < nb) (hj : j < k) (e : f3 k = nI j) : depF f3 60 k = depF f3 60 j + 1 := by
  show (if f3 k < 0 then 1 else depF f3 59 (ix (f3 k)) + 1) = _
  rw [e, if_neg (nI_pos (by omega)), ix_nI (by omega), depF_fuel ha hn 59 60 j (by omega) (by omega) (by omega)]
theorem masF_step {f3 : Nat → Int32} {nb k j : Nat} (ha : abvOk f3 nb) (hn : nb ≤ 60) (hk : k < nb) (hj : j < k) (e : f3 k = nI j) : masF f3 60 k = masF f3 60 j := by
  show (if f3 k < 0 then k else masF f3 59 (ix (f3 k))) = _
  rw [e, if_neg (nI_pos (by omega)), ix_nI (by omega), masF_fuel ha hn 59 60 j (by omega) (by omega) (by omega)]
theorem masF_top {f3 : Nat → Int32} {nb : Nat} (ha : abvOk f3 nb) (hn : nb ≤ 60) : ∀ (n k : Nat), k < n → k < nb → f3 (masF f3 60 k) < 0
  | 0, _, h, _ => absurd h (by omega)
  | n + 1, k, h, hk => by
    rcases ha k hk with e | ⟨j, hj, e⟩
    · have h1 : f3 k < 0 := by rw [e]; exact m1_neg
      rw [masF_neg (by omega) h1]; exact h1
    · rw [masF_step ha hn hk hj e]
      exact masF_top ha hn n j (by omega) (by omega)
theorem masF_idem {f3 : Nat → Int32} {nb k : Nat} (ha : abvOk f3 nb) (hn : nb ≤ 60) (hk : k < nb) : masF f3 60 (masF f3 60 k) = masF f3 60 k := by
  have h1 := masF_lt ha hn 60 k hk
  exact masF_neg (by omega) (masF_top ha hn (k + 1) k (by omega) hk)
/-- the bills on both sides -/
def RB (g h : Nat → Nat → Int32) (nb : Nat) : Prop :=
  (∀ k, k < nb → (g 2 k = h 1 k ∧ g 3 k = h 2 k ∧ g 4 k = h 3 k ∧ g 7 k = h 4 k ∧ g 8 k = h 5 k) ∧ (g 5 k = nI (depF (h 3) 60 k) ∧ g 6 k = nI (masF (h 3) 60 k) ∧ depF (h 3) 60 k ≤ 4) ∧ (∃ c, c < 4 ∧ h 1 k = nI c) ∧ ∃ n, n < 100000000 ∧ h 2 k = nI n) ∧
  (∀ k, nb ≤ k → h 4 k = 0 ∧ h 5 k = 0) ∧ abvOk (h 3) nb
theorem RB_of {g g' h h' : Nat → Nat → Int32} {nb : Nat} (e : ∀ j, j < 9 → g' j = g j) (e2 : ∀ j, j < 6 → h' j = h j) (H : RB g h nb) : RB g' h' nb := by
  unfold RB at H ⊢
  rw [e 2 (by decide), e 3 (by decide), e 4 (by decide), e 5 (by decide), e 6 (by decide), e 7 (by decide), e 8 (by decide), e2 1 (by decide), e2 2 (by decide), e2 3 (by decide), e2 4 (by decide), e2 5 (by decide)]
  exact H
theorem RB_add {g h : Nat → Nat → Int32} {nb c n : Nat} {a a4 : Int32} (hn : nb < 60) (H : RB g h nb) (hc : c < 4) (hn9 : n < 100000000) (ha : a = -1 ∨ ∃ j, j < nb ∧ a = nI j ∧ depF (h 3) 60 j ≤ 3) : RB (addB g nb (nI c) (nI n) a a4) (up (makR h nb (nI c) (nI n) a) 4 nb a4) (nb + 1) := by
  obtain ⟨H1, H2, H3⟩ := H
  have gl : ∀ j k, k < nb → addB g nb (nI c) (nI n) a a4 j k = g j k := fun j k hk => by
    unfold addB
    rw [up_k (by omega), up_k (by omega), up_k (by omega), up_k (by omega), up_k (by omega), up_k (by omega), up_k (by omega)]
  have hl : ∀ j k, k ≠ nb → (up (makR h nb (nI c) (nI n) a) 4 nb a4) j k = h j k := fun j k hk => by
    unfold makR
    rw [up_k hk, up_k hk, up_k hk, up_k hk]
  have h3 : (up (makR h nb (nI c) (nI n) a) 4 nb a4) 3 nb = a := by simp [makR, up_app]
  have hab : abvOk ((up (makR h nb (nI c) (nI n) a) 4 nb a4) 3) (nb + 1) := by
    intro k hk
    rcases Nat.lt_or_ge k nb with q | q
    · rw [hl 3 k (by omega)]; exact H3 k q
    · rw [show k = nb by omega, h3]
      rcases ha with e | ⟨j, hj, e, -⟩
      · exact Or.inl e
      · exact Or.inr ⟨j, hj, e⟩
  have hd : ∀ k, k < nb → depF ((up (makR h nb (nI c) (nI n) a) 4 nb a4) 3) 60 k = depF (h 3) 60 k := fun k hk => depF_cg H3 (by omega) (fun j hj => hl 3 j (by omega)) 60 k hk
  have hm : ∀ k, k < nb → masF ((up (makR h nb (nI c) (nI n) a) 4 nb a4) 3) 60 k = masF (h 3) 60 k := fun k hk => masF_cg H3 (by omega) (fun j hj => hl 3 j (by omega)) 60 k hk
  refine ⟨fun k hk => ?_, fun k hk => ?_, hab⟩
  · rcases Nat.lt_or_ge k nb with q | q
    · rw [gl 2 k q, gl 3 k q, gl 4 k q, gl 5 k q, gl 6 k q, gl 7 k q, gl 8 k q, hd k q, hm k q, hl 1 k (by omega), hl 2 k (by omega), hl 3 k (by omega), hl 4 k (by omega), hl 5 k (by omega)]
      exact H1 k q
    · have e : k = nb := by omega
      subst e
      have h5 := (H2 k (Nat.le_refl k)).2
      refine ⟨⟨by simp [addB, makR, up_app], by simp [addB, makR, up_app], by simp [addB, makR, up_app], by simp [addB, makR, up_app], by simp [addB, makR, up_app, h5]⟩, ?_, ⟨c, hc, by simp [makR, up_app]⟩, n, hn9, by simp [makR, up_app]⟩
      have e5 : addB g k (nI c) (nI n) a a4 5 k = (if inN k a = true then g 5 (ix a) + 1 else 1) := by simp [addB, up_app]
      have e6 : addB g k (nI c) (nI n) a a4 6 k = (if inN k a = true then g 6 (ix a) else nI k) := by simp [addB, up_app]
      rw [e5, e6]
      rcases ha with e | ⟨j, hj, e, hj3⟩
      · have hi : inN k a = false := by rw [e]; unfold inN; rw [if_pos m1_neg]
        have hneg : (up (makR h k (nI c) (nI n) a) 4 k a4) 3 k < 0 := by rw [h3, e]; exact m1_neg
        rw [hi, if_neg (by decide), if_neg (by decide), depF_neg (by omega) hneg, masF_neg (by omega) hneg]
        exact ⟨rfl, rfl, by decide⟩
      · have hi : inN k a = true := by rw [e]; exact inN_nI hj (by omega)
        have hst : (up (makR h k (nI c) (nI n) a) 4 k a4) 3 k = nI j := by rw [h3, e]
        rw [hi, if_pos rfl, if_pos rfl, depF_step hab (by omega) (by omega) hj hst, masF_step hab (by omega) (by omega) hj hst, hd j hj, hm j hj, e, ix_nI (by omega), (H1 j hj).2.1.1, (H1 j hj).2.1.2.1]
        exact ⟨(nI_1 _), rfl, by omega⟩
  · rw [hl 4 k (by omega), hl 5 k (by omega)]
    exact H2 k (by omega)
theorem RB_47 {g h : Nat → Nat → Int32} {nb k : Nat} {t : Int32} (hk : k < nb) (H : RB g h nb) : RB (up g 7 k t) (up h 4 k t) nb := by
  obtain ⟨H1, H2, H3⟩ := H
  refine ⟨fun i hi => ?_, fun i hi => ?_, ?_⟩
  · rw [up_o (a := 7) (j := 2) (by decide), up_o (a := 7) (j := 3) (by decide), up_o (a := 7) (j := 4) (by decide), up_o (a := 7) (j := 5) (by decide), up_o (a := 7) (j := 6) (by decide), up_o (a := 7) (j := 8) (by decide), up_o (a := 4) (j := 1) (by decide), up_o (a := 4) (j := 2) (by decide), up_o (a := 4) (j := 3) (by decide), up_o (a := 4) (j := 5) (by decide)]
    obtain ⟨⟨a, b, c, d, e⟩, r⟩ := H1 i hi
    refine ⟨⟨a, b, c, ?_, e⟩, r⟩
    rw [up_app, up_app]
    by_cases q : i = k
    · rw [if_pos ⟨rfl, q⟩, if_pos ⟨rfl, q⟩]
    · rw [if_neg (fun z => q z.2), if_neg (fun z => q z.2)]; exact d
  · rw [up_k (by omega), up_k (by omega)]; exact H2 i hi
  · rw [up_o (by decide)]; exact H3
theorem RB_85 {g h : Nat → Nat → Int32} {nb k : Nat} {t : Int32} (hk : k < nb) (H : RB g h nb) : RB (up g 8 k t) (up h 5 k t) nb := by
  obtain ⟨H1, H2, H3⟩ := H
  refine ⟨fun i hi => ?_, fun i hi => ?_, ?_⟩
  · rw [up_o (a := 8) (j := 2) (by decide), up_o (a := 8) (j := 3) (by decide), up_o (a := 8) (j := 4) (by decide), up_o (a := 8) (j := 5) (by decide), up_o (a := 8) (j := 6) (by decide), up_o (a := 8) (j := 7) (by decide), up_o (a := 5) (j := 1) (by decide), up_o (a := 5) (j := 2) (by decide), up_o (a := 5) (j := 3) (by decide), up_o (a := 5) (j := 4) (by decide)]
    obtain ⟨⟨a, b, c, d, e⟩, r⟩ := H1 i hi
    refine ⟨⟨a, b, c, d, ?_⟩, r⟩
    rw [up_app, up_app]
    by_cases q : i = k
    · rw [if_pos ⟨rfl, q⟩, if_pos ⟨rfl, q⟩]
    · rw [if_neg (fun z => q z.2), if_neg (fun z => q z.2)]; exact e
  · rw [up_k (by omega), up_k (by omega)]; exact H2 i hi
  · rw [up_o (by decide)]; exact H3
