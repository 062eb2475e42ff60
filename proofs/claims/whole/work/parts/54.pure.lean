/-! Pure: boxes -/
/-- the boxes on both sides -/
def RX (g : Nat → Nat → Int32) (z : Nat → Int64) (h : Nat → Nat → Int32) (o : Nat → Bool) (nb nx : Nat) : Prop :=
  (∀ k, k < nx → (g 16 k = h 9 k ∧ g 17 k = h 10 k ∧ g 18 k = h 11 k ∧ g 19 k = h 12 k ∧ g 21 k = h 13 k ∧ g 22 k = h 14 k) ∧ (h 12 k = -1 ∨ ∃ w, w ≤ 1000000 ∧ h 12 k = nI w) ∧ (h 13 k = -1 ∨ ∃ j, j < nb ∧ h 13 k = nI j) ∧ (h 14 k = -1 ∨ ∃ j, j < nx ∧ h 14 k = nI j) ∧ g 23 k = prvR h nx (nI k)) ∧
  (∀ k, k < nx → (∀ b, b < 64 → zb (z k) b = (decide (b < 60) && o (60 * k + b))) ∧ bofR o nb k ≤ 4) ∧
  (∀ k b, k < 60 → b < 60 → o (60 * k + b) = true → k < nx ∧ b < nb) ∧
  ∃ r : Nat → Nat, ∀ k, k < nx → ∀ p, p < nx → prvR h nx (nI k) = nI p → r p < r k
theorem prvR_eq {h h' : Nat → Nat → Int32} {nx : Nat} {x : Int32} (e : h' 14 = h 14) : prvR h' nx x = prvR h nx x := by unfold prvR; rw [e]
theorem prv_cases (h : Nat → Nat → Int32) (nx : Nat) (x : Int32) : (prvR h nx x = -1 ∧ ∀ i, i < nx → ¬ h 14 i = x) ∨ ∃ j, j < nx ∧ h 14 j = x ∧ prvR h nx x = nI j := by
  rcases lasN_cases (P := fun k => decide (h 14 k = x)) nx with ⟨a, b⟩ | ⟨j, a, b, c⟩
  · exact Or.inl ⟨a, fun i hi => by have := b i hi; simpa using this⟩
  · exact Or.inr ⟨j, a, by simpa using b, c⟩
theorem RX_of {g g' : Nat → Nat → Int32} {z : Nat → Int64} {h h' : Nat → Nat → Int32} {o : Nat → Bool} {nb nx : Nat} (e : ∀ j, 16 ≤ j → g' j = g j) (e2 : ∀ j, 9 ≤ j → h' j = h j) (H : RX g z h o nb nx) : RX g' z h' o nb nx := by
  obtain ⟨H1, H2, H3, r, H4⟩ := H
  have h14 := e2 14 (by decide)
  refine ⟨fun k hk => ?_, H2, H3, r, fun k hk p hp q => H4 k hk p hp (by rw [← q]; exact (prvR_eq h14).symm)⟩
  rw [e 16 (by decide), e 17 (by decide), e 18 (by decide), e 19 (by decide), e 21 (by decide), e 22 (by decide), e 23 (by decide), e2 9 (by decide), e2 10 (by decide), e2 11 (by decide), e2 12 (by decide), e2 13 (by decide), h14, prvR_eq h14]
  exact H1 k hk
theorem RX_bof {o : Nat → Bool} {nb nb' nx k : Nat} (hk : k < 60) (hn : nb ≤ nb') (hb : nb' ≤ 60) (H3 : ∀ k b, k < 60 → b < 60 → o (60 * k + b) = true → k < nx ∧ b < nb) : bofR o nb' k = bofR o nb k := by
  unfold bofR
  refine cntN_ext hn (fun i h1 h2 => ?_)
  cases q : o (60 * k + i) with
  | false => rfl
  | true => exact absurd (H3 k i hk (by omega) q).2 (by omega)
theorem RX_nb {g : Nat → Nat → Int32} {z : Nat → Int64} {h : Nat → Nat → Int32} {o : Nat → Bool} {nb nb' nx : Nat} (hx : nx ≤ 60) (hn : nb ≤ nb') (hb : nb' ≤ 60) (H : RX g z h o nb nx) : RX g z h o nb' nx := by
  obtain ⟨H1, H2, H3, H4⟩ := H
  refine ⟨fun k hk => ?_, fun k hk => ?_, fun k b hk hb2 q => ⟨(H3 k b hk hb2 q).1, Nat.lt_of_lt_of_le (H3 k b hk hb2 q).2 hn⟩, H4⟩
  · obtain ⟨a, b, c, d⟩ := H1 k hk
    exact ⟨a, b, c.elim Or.inl (fun ⟨j, hj, e⟩ => Or.inr ⟨j, by omega, e⟩), d⟩
  · rw [RX_bof (by omega) hn hb H3]; exact H2 k hk
section BX
variable {g : Nat → Nat → Int32} {z : Nat → Int64} {h : Nat → Nat → Int32} {o : Nat → Bool} {nb nx : Nat}
theorem RX_popc (hb : nb ≤ 60) (hx : nx ≤ 60) (H : RX g z h o nb nx) {k : Nat} (hk : k < nx) : popc (z k) = bofR o nb k := by
  obtain ⟨-, H2, H3, -⟩ := H
  have h1 : popc (z k) = cntN (zb (z k)) 64 := rfl
  have h2 : cntN (zb (z k)) 64 = cntN (zb (z k)) 60 := cntN_ext (by decide) (fun i h1 h2 => by rw [(H2 k hk).1 i h2]; simp; omega)
  have h3 : cntN (zb (z k)) 60 = bofR o 60 k := cntN_congr (fun i hi => by rw [(H2 k hk).1 i (by omega)]; simp [hi])
  rw [h1, h2, h3, RX_bof (nx := nx) (by omega) hb (Nat.le_refl 60) H3]
theorem RX_on (hb : nb ≤ 60) (hx : nx ≤ 60) (H : RX g z h o nb nx) {k b : Nat} (hk : k < nx) (hb2 : b < 60) : onX z k (nI b) = o (60 * k + b) := by
  rw [onX_zb (by omega), (H.2.1 k hk).1 b (by omega)]
  simp [hb2]
theorem RX_mask (hb : nb ≤ 60) (hx : nx ≤ 60) (H : RX g z h o nb nx) {k b : Nat} (hk : k < nx) (hb2 : b < 60) : popc (z k &&& (bitM (nI b) - 1)) = cntN (fun i => o (60 * k + i)) b := by
  rw [popc_mask (by omega)]
  refine cntN_congr (fun i hi => ?_)
  rw [(H.2.1 k hk).1 i (by omega)]
  simp; omega
theorem RX_lan (hb : nb ≤ 60) (hx : nx ≤ 60) (H : RX g z h o nb nx) {k : Nat} (hk : k < nx) : lanX g k = lanP h k := by
  obtain ⟨⟨-, -, -, e, -⟩, c, -⟩ := H.1 k hk
  unfold lanX lanP
  rw [e]
  rcases c with c | ⟨w, hw, c⟩
  · rw [c, if_pos rfl, if_pos m1_neg]
  · rw [c, if_neg (nI_nm1 (by omega)), if_neg (nI_pos (by omega))]
theorem RX_l12 (hb : nb ≤ 60) (hx : nx ≤ 60) (H : RX g z h o nb nx) {k : Nat} (hk : k < nx) : (h 12 k < 0) = (lanP h k = false) ∧ (0 ≤ h 12 k) = (lanP h k = true) := by
  have : lanP h k = if h 12 k < 0 then false else true := rfl
  rw [this]
  by_cases q : h 12 k < 0
  · rw [if_pos q]
    refine ⟨by simp [q], ?_⟩
    rw [lt0_ge] at q
    simp [q]
  · rw [if_neg q]
    refine ⟨by simp [q], ?_⟩
    rw [lt0_ge] at q
    simpa using q
theorem RX_ord (hb : nb ≤ 60) (hx : nx ≤ 60) (H : RX g z h o nb nx) {k : Nat} (hk : k < nx) : (ordX g k = true) = (0 ≤ h 13 k) ∧ (h 13 k < 0) = (ordX g k = false) := by
  obtain ⟨⟨-, -, -, -, e, -⟩, -, c, -⟩ := H.1 k hk
  unfold ordX
  rw [e]
  rcases c with c | ⟨w, hw, c⟩
  · rw [c, if_pos rfl]
    exact ⟨by decide, by decide⟩
  · rw [c, if_neg (nI_nm1 (by omega))]
    have h1 : (0 : Int32) ≤ nI w := nI_pos' (by omega)
    have h2 : ¬ nI w < 0 := nI_pos (by omega)
    exact ⟨by simp [h1], by simp [h2]⟩
theorem RX_wai (hb : nb ≤ 60) (hx : nx ≤ 60) (H : RX g z h o nb nx) {k : Nat} (hk : k < nx) : waiX g z k = wnoR h o nb k := by
  unfold waiX wnoR
  rw [RX_lan hb hx H hk]
  by_cases q : h 12 k < 0
  · rw [if_pos q, if_neg (by rw [(RX_l12 hb hx H hk).1] at q; rw [q]; decide)]
  · have q2 : lanP h k = true := by
      rw [← (RX_l12 hb hx H hk).2]
      rw [lt0_ge] at q; exact Classical.not_not.mp q
    rw [if_pos q2, if_neg q]
    simp only [popc_0, RX_popc hb hx H hk]
theorem RX_g23 (hb : nb ≤ 60) (hx : nx ≤ 60) (H : RX g z h o nb nx) {k : Nat} (hk : k < nx) : g 23 k = prvR h nx (nI k) := (H.1 k hk).2.2.2.2
theorem RX_fir (hb : nb ≤ 60) (hx : nx ≤ 60) (H : RX g z h o nb nx) : ∀ (f k : Nat), k < nx → firL g nx f k = firR h nx f k
  | 0, _, _ => rfl
  | f + 1, k, hk => by
    show (if inN nx (g 23 k) = true then firL g nx f (ix (g 23 k)) else k) = (if prvR h nx (nI k) < 0 then k else firR h nx f (ix (prvR h nx (nI k))))
    rw [RX_g23 hb hx H hk]
    rcases prv_cases h nx (nI k) with ⟨e, -⟩ | ⟨j, hj, -, e⟩
    · rw [e, if_pos m1_neg, if_neg (show ¬ inN nx (-1) = true by unfold inN; rw [if_pos m1_neg]; decide)]
    · rw [e, if_neg (nI_pos (by omega)), if_pos (inN_nI hj (by omega)), ix_nI (by omega)]
      exact RX_fir hb hx H f j hj
theorem RX_wsf (hb : nb ≤ 60) (hx : nx ≤ 60) (H : RX g z h o nb nx) : ∀ (f k : Nat) (sm : Int32), k < nx → wsfL g nx f k sm = sumB h nx f (prvR h nx (nI k)) sm
  | 0, _, _, _ => rfl
  | f + 1, k, sm, hk => by
    show (if inN nx (g 23 k) = true then wsfL g nx f (ix (g 23 k)) (sm + g 18 (ix (g 23 k))) else sm) = (if prvR h nx (nI k) < 0 then sm else sumB h nx f (prvR h nx (prvR h nx (nI k))) (sm + h 11 (ix (prvR h nx (nI k)))))
    rw [RX_g23 hb hx H hk]
    rcases prv_cases h nx (nI k) with ⟨e, -⟩ | ⟨j, hj, -, e⟩
    · rw [e, if_pos m1_neg, if_neg (show ¬ inN nx (-1) = true by unfold inN; rw [if_pos m1_neg]; decide)]
    · rw [e, if_neg (nI_pos (by omega)), if_pos (inN_nI hj (by omega)), ix_nI (by omega), (H.1 j hj).1.2.2.1]
      exact RX_wsf hb hx H f j _ hj
end BX
theorem cntN_imp {P R : Nat → Bool} : ∀ {n : Nat}, (∀ i, i < n → P i = true → R i = true) → cntN P n ≤ cntN R n
  | 0, _ => Nat.le_refl 0
  | n + 1, h => by
    have ih := cntN_imp (P := P) (R := R) (n := n) (fun i hi => h i (by omega))
    show (if P n = true then cntN P n + 1 else cntN P n) ≤ (if R n = true then cntN R n + 1 else cntN R n)
    by_cases q : P n = true
    · rw [if_pos q, if_pos (h n (Nat.lt_succ_self n) q)]; omega
    · rw [if_neg q]; split <;> omega
theorem cntN_imp_lt {P R : Nat → Bool} {p : Nat} (h1 : P p = false) (h2 : R p = true) : ∀ {n : Nat}, (∀ i, i < n → P i = true → R i = true) → p < n → cntN P n < cntN R n
  | 0, _, h => absurd h (Nat.not_lt_zero _)
  | n + 1, h, hp => by
    show (if P n = true then cntN P n + 1 else cntN P n) < (if R n = true then cntN R n + 1 else cntN R n)
    rcases Nat.lt_or_ge p n with q | q
    · have ih := cntN_imp_lt h1 h2 (n := n) (fun i hi => h i (by omega)) q
      by_cases q : P n = true
      · rw [if_pos q, if_pos (h n (Nat.lt_succ_self n) q)]; omega
      · rw [if_neg q]; split <;> omega
    · have e : p = n := by omega
      subst e
      have ih := cntN_imp (P := P) (R := R) (n := p) (fun i hi => h i (by omega))
      rw [h1, h2, if_neg (by decide), if_pos rfl]
      omega
theorem rk_of {h : Nat → Nat → Int32} {nx : Nat} (hx : nx ≤ 60) {r : Nat → Nat} (H : ∀ k, k < nx → ∀ p, p < nx → prvR h nx (nI k) = nI p → r p < r k) : ∃ rk, rkOk h nx rk := by
  refine ⟨fun p => cntN (fun j => decide (r j < r p)) nx, fun k hk => ⟨?_, fun p hp e => ?_⟩⟩
  · have h1 : cntN (fun j => decide (r j < r k)) nx < cntN (fun _ => true) nx := cntN_imp_lt (p := k) (by simp) rfl (fun _ _ _ => rfl) hk
    rw [cntN_full (fun _ _ => rfl)] at h1
    show cntN (fun j => decide (r j < r k)) nx < 60
    omega
  · have hr := H k hk p hp e
    refine cntN_imp_lt (p := p) (by simp) (by simp [hr]) (fun i _ q => ?_) hp
    simp only [decide_eq_true_eq] at q ⊢
    omega
theorem firR_fuel {h : Nat → Nat → Int32} {nx : Nat} (hx : nx ≤ 60) {rk : Nat → Nat} (hr : rkOk h nx rk) : ∀ (f f' k : Nat), k < nx → rk k < f → rk k < f' → firR h nx f k = firR h nx f' k
  | 0, _, _, _, q, _ => absurd q (by omega)
  | f + 1, 0, _, _, _, q => absurd q (by omega)
  | f + 1, f' + 1, k, hk, h1, h2 => by
    show (if prvR h nx (nI k) < 0 then k else firR h nx f (ix (prvR h nx (nI k)))) = (if prvR h nx (nI k) < 0 then k else firR h nx f' (ix (prvR h nx (nI k))))
    rcases prv_cases h nx (nI k) with ⟨e, -⟩ | ⟨j, hj, -, e⟩
    · rw [e, if_pos m1_neg, if_pos m1_neg]
    · have := (hr k hk).2 j hj e
      rw [e, ix_nI (by omega), firR_fuel hx hr f f' j hj (by omega) (by omega)]
theorem firR_step {h : Nat → Nat → Int32} {nx k j : Nat} (hx : nx ≤ 60) {rk : Nat → Nat} (hr : rkOk h nx rk) (hk : k < nx) (hj : j < nx) (e : prvR h nx (nI k) = nI j) : firR h nx 60 k = firR h nx 60 j := by
  have h1 := (hr k hk).2 j hj e
  have h2 := (hr k hk).1
  show (if prvR h nx (nI k) < 0 then k else firR h nx 59 (ix (prvR h nx (nI k)))) = _
  rw [e, if_neg (nI_pos (by omega)), ix_nI (by omega), firR_fuel hx hr 59 60 j hj (by omega) (by omega)]
theorem lasN_only {P : Nat → Bool} {x : Nat} (hp : P x = true) : ∀ {n : Nat}, x < n → (∀ i, i < n → i ≠ x → P i = false) → lasN P n = nI x
  | 0, h, _ => absurd h (Nat.not_lt_zero _)
  | n + 1, h, q => by
    by_cases e : n = x
    · subst e; exact lasN_t hp
    · rw [lasN_f (q n (Nat.lt_succ_self n) e)]
      exact lasN_only hp (by omega) (fun i hi => q i (by omega))
/-! boxes change -/
theorem RX_add {g : Nat → Nat → Int32} {z : Nat → Int64} {h : Nat → Nat → Int32} {o : Nat → Bool} {nb nx : Nat} {c n w : Int32} (hb : nb ≤ 60) (hx : nx < 60) (H : RX g z h o nb nx) : RX (addX g nx c n w) (vp_updL z nx 0) (addK h nx c n w) o nb (nx + 1) := by
  obtain ⟨H1, H2, H3, r, H4⟩ := H
  have gl : ∀ j k, k < nx → addX g nx c n w j k = g j k := fun j k hk => by
    unfold addX
    rw [up_k (by omega), up_k (by omega), up_k (by omega), up_k (by omega), up_k (by omega), up_k (by omega), up_k (by omega)]
  have hl : ∀ j k, k < nx → addK h nx c n w j k = h j k := fun j k hk => by
    unfold addK
    rw [up_k (by omega), up_k (by omega), up_k (by omega), up_k (by omega), up_k (by omega), up_k (by omega)]
  have n14 : addK h nx c n w 14 nx = -1 := by simp [addK, up_app]
  have hp : ∀ k, k < nx → prvR (addK h nx c n w) (nx + 1) (nI k) = prvR h nx (nI k) := fun k hk => by
    unfold prvR
    rw [lasN_f (P := fun q => decide (addK h nx c n w 14 q = nI k)) (by rw [decide_eq_false_iff_not, n14]; exact fun q => nI_nm1 (by omega) q.symm)]
    exact lasN_congr (fun i hi => by rw [hl 14 i hi])
  have hpn : prvR (addK h nx c n w) (nx + 1) (nI nx) = -1 := by
    refine lasN_none (fun i hi => ?_)
    rw [decide_eq_false_iff_not]
    rcases Nat.lt_or_ge i nx with q | q
    · rw [hl 14 i q]
      rcases (H1 i q).2.2.2.1 with e | ⟨j, hj, e⟩
      · rw [e]; exact fun q => nI_nm1 (by omega) q.symm
      · rw [e]; exact fun q => by have := (nI_eq (by omega) (by omega)).mp q; omega
    · rw [show i = nx by omega, n14]; exact fun q => nI_nm1 (by omega) q.symm
  refine ⟨fun k hk => ?_, fun k hk => ?_, fun k b hk hb2 q => ⟨Nat.lt_succ_of_lt (H3 k b hk hb2 q).1, (H3 k b hk hb2 q).2⟩, r, fun k hk p hp9 q => ?_⟩
  · rcases Nat.lt_or_ge k nx with q | q
    · rw [gl 16 k q, gl 17 k q, gl 18 k q, gl 19 k q, gl 21 k q, gl 22 k q, gl 23 k q, hl 9 k q, hl 10 k q, hl 11 k q, hl 12 k q, hl 13 k q, hl 14 k q, hp k q]
      obtain ⟨a, b, c, d, e⟩ := H1 k q
      exact ⟨a, b, c, d.elim Or.inl (fun ⟨j, hj, e⟩ => Or.inr ⟨j, by omega, e⟩), e⟩
    · rw [show k = nx by omega, hpn]
      exact ⟨⟨by simp [addX, addK, up_app], by simp [addX, addK, up_app], by simp [addX, addK, up_app], by simp [addX, addK, up_app], by simp [addX, addK, up_app], by simp [addX, addK, up_app]⟩, Or.inl (by simp [addK, up_app]), Or.inl (by simp [addK, up_app]), Or.inl n14, by simp [addX, up_app]⟩
  · rcases Nat.lt_or_ge k nx with q | q
    · have e : vp_updL z nx 0 k = z k := if_neg (by omega)
      rw [e]; exact H2 k q
    · have e1 : k = nx := by omega
      subst e1
      have e : vp_updL z k 0 k = 0 := if_pos rfl
      have e2 : ∀ b, b < 60 → o (60 * k + b) = false := fun b hb => by
        cases q : o (60 * k + b) with
        | false => rfl
        | true => exact absurd (H3 k b hx hb q).1 (by omega)
      rw [e]
      refine ⟨fun b hb => ?_, ?_⟩
      · rw [zb_0]
        by_cases p : b < 60
        · rw [e2 b p]; simp
        · simp [p]
      · unfold bofR
        rw [cntN_zero (fun i hi => e2 i (by omega))]; decide
  · rcases Nat.lt_or_ge k nx with hk1 | hk1
    · rw [hp k hk1] at q
      rcases prv_cases h nx (nI k) with ⟨e, -⟩ | ⟨j, hj, -, e⟩
      · rw [e] at q; exact absurd q.symm (nI_nm1 (by omega))
      · have : p = j := by rw [e] at q; exact ((nI_eq (by omega) (by omega)).mp q).symm
        subst this
        exact H4 k hk1 p hj e
    · rw [show k = nx by omega, hpn] at q
      exact absurd q.symm (nI_nm1 (by omega))
theorem updO_ne {o : Nat → Bool} {i j k b : Nat} (hj : j < 60) (hb : b < 60) (h : ¬ (k = i ∧ b = j)) : updO o (60 * i + j) (60 * k + b) = o (60 * k + b) := if_neg (by omega)
theorem updO_s (o : Nat → Bool) (i : Nat) : updO o i i = true := if_pos rfl
theorem RX_put {g : Nat → Nat → Int32} {z : Nat → Int64} {h : Nat → Nat → Int32} {o : Nat → Bool} {nb nx i j : Nat} (hb : nb ≤ 60) (hx : nx ≤ 60) (H : RX g z h o nb nx) (hi : i < nx) (hj : j < nb) (ho : o (60 * i + j) = false) (h4 : bofR o nb i ≤ 3) : RX g (vp_updL z i (z i ||| bitM (nI j))) h (updO o (60 * i + j)) nb nx := by
  obtain ⟨H1, H2, H3, H4⟩ := H
  refine ⟨H1, fun k hk => ?_, fun k b hk hb2 q => ?_, H4⟩
  · by_cases e : k = i
    · subst e
      have e1 : vp_updL z k (z k ||| bitM (nI j)) k = z k ||| bitM (nI j) := if_pos rfl
      rw [e1]
      refine ⟨fun b hb64 => ?_, ?_⟩
      · rw [zb_or (by omega), (H2 k hk).1 b hb64]
        by_cases p : b < 60
        · by_cases p2 : b = j
          · subst p2; rw [updO_s]; simp [p]
          · rw [updO_ne (by omega) p (fun z => p2 z.2)]; simp [Ne.symm p2]
        · simp [p]; omega
      · have h5 : bofR (updO o (60 * k + j)) nb k = bofR o nb k + 1 := by
          unfold bofR
          exact cntN_one (P := fun b => o (60 * k + b)) (R := fun b => updO o (60 * k + j) (60 * k + b)) (k := j) ho (updO_s o _) (fun b hb => by
            show updO o (60 * k + j) (60 * k + b) = o (60 * k + b)
            exact if_neg (by omega)) hj
        omega
    · have e1 : vp_updL z i (z i ||| bitM (nI j)) k = z k := if_neg e
      rw [e1]
      refine ⟨fun b hb64 => ?_, ?_⟩
      · rw [(H2 k hk).1 b hb64]
        by_cases p : b < 60
        · rw [updO_ne (by omega) p (fun z => e z.1)]
        · simp [p]
      · have h5 : bofR (updO o (60 * i + j)) nb k = bofR o nb k := cntN_congr (fun b hb => updO_ne (by omega) (by omega) (fun z => e z.1))
        rw [h5]; exact (H2 k hk).2
  · by_cases e : k = i ∧ b = j
    · rw [e.1, e.2]; exact ⟨hi, hj⟩
    · rw [updO_ne (by omega) hb2 e] at q
      exact H3 k b hk hb2 q
theorem RX_land {g : Nat → Nat → Int32} {z : Nat → Int64} {h : Nat → Nat → Int32} {o : Nat → Bool} {nb nx i w : Nat} (H : RX g z h o nb nx) (hi : i < nx) (hw : w ≤ 1000000) : RX (up g 19 i (nI w)) z (up h 12 i (nI w)) o nb nx := by
  obtain ⟨H1, H2, H3, r, H4⟩ := H
  have h14 : (up h 12 i (nI w)) 14 = h 14 := up_o (by decide)
  refine ⟨fun k hk => ?_, H2, H3, r, fun k hk p hp q => H4 k hk p hp (by rw [← q]; exact (prvR_eq h14).symm)⟩
  rw [prvR_eq h14, h14, up_o (a := 19) (j := 16) (by decide), up_o (a := 19) (j := 17) (by decide), up_o (a := 19) (j := 18) (by decide), up_o (a := 19) (j := 21) (by decide), up_o (a := 19) (j := 22) (by decide), up_o (a := 19) (j := 23) (by decide), up_o (a := 12) (j := 9) (by decide), up_o (a := 12) (j := 10) (by decide), up_o (a := 12) (j := 11) (by decide), up_o (a := 12) (j := 13) (by decide)]
  obtain ⟨⟨a1, a2, a3, a4, a5⟩, b, c⟩ := H1 k hk
  by_cases q : k = i
  · subst q
    rw [up_s, up_s]
    exact ⟨⟨a1, a2, a3, rfl, a5⟩, Or.inr ⟨w, hw, rfl⟩, c⟩
  · rw [up_k q, up_k q]
    exact ⟨⟨a1, a2, a3, a4, a5⟩, b, c⟩
theorem RX_order {g : Nat → Nat → Int32} {z : Nat → Int64} {h : Nat → Nat → Int32} {o : Nat → Bool} {nb nx i w : Nat} (H : RX g z h o nb nx) (hi : i < nx) (hw : w < nb) : RX (up g 21 i (nI w)) z (up h 13 i (nI w)) o nb nx := by
  obtain ⟨H1, H2, H3, r, H4⟩ := H
  have h14 : (up h 13 i (nI w)) 14 = h 14 := up_o (by decide)
  refine ⟨fun k hk => ?_, H2, H3, r, fun k hk p hp q => H4 k hk p hp (by rw [← q]; exact (prvR_eq h14).symm)⟩
  rw [prvR_eq h14, h14, up_o (a := 21) (j := 16) (by decide), up_o (a := 21) (j := 17) (by decide), up_o (a := 21) (j := 18) (by decide), up_o (a := 21) (j := 19) (by decide), up_o (a := 21) (j := 22) (by decide), up_o (a := 21) (j := 23) (by decide), up_o (a := 13) (j := 9) (by decide), up_o (a := 13) (j := 10) (by decide), up_o (a := 13) (j := 11) (by decide), up_o (a := 13) (j := 12) (by decide)]
  obtain ⟨⟨a1, a2, a3, a4, a5, a6⟩, b, c, d⟩ := H1 k hk
  by_cases q : k = i
  · subst q
    rw [up_s, up_s]
    exact ⟨⟨a1, a2, a3, a4, rfl, a6⟩, b, Or.inr ⟨w, hw, rfl⟩, d⟩
  · rw [up_k q, up_k q]
    exact ⟨⟨a1, a2, a3, a4, a5, a6⟩, b, c, d⟩
theorem prv_leg {h : Nat → Nat → Int32} {nx x y k : Nat} (hx : nx ≤ 60) (hxx : x < nx) (hy : y < nx) (hk : k < nx) (e1 : h 14 x = -1) (e2 : prvR h nx (nI y) = -1) : prvR (up h 14 x (nI y)) nx (nI k) = if k = y then nI x else prvR h nx (nI k) := by
  by_cases q : k = y
  · subst q
    rw [if_pos rfl]
    refine lasN_only (P := fun i => decide (up h 14 x (nI k) 14 i = nI k)) (by simp [up_s]) hxx (fun i hi hne => ?_)
    rw [decide_eq_false_iff_not, up_k hne]
    rcases prv_cases h nx (nI k) with ⟨-, e⟩ | ⟨j, hj, -, e⟩
    · exact e i hi
    · rw [e2] at e; exact absurd e.symm (nI_nm1 (by omega))
  · rw [if_neg q]
    refine lasN_congr (fun i hi => ?_)
    by_cases p : i = x
    · subst p
      rw [up_s, e1]
      have a1 : ¬ nI y = nI k := fun z => q ((nI_eq (by omega) (by omega)).mp z).symm
      have a2 : ¬ (-1 : Int32) = nI k := fun z => nI_nm1 (by omega) z.symm
      rw [decide_eq_false a1, decide_eq_false a2]
    · rw [up_k p]
theorem RX_leg {g : Nat → Nat → Int32} {z : Nat → Int64} {h : Nat → Nat → Int32} {o : Nat → Bool} {nb nx x y : Nat} (hx : nx ≤ 60) (H : RX g z h o nb nx) (hxx : x < nx) (hy : y < nx) (e1 : h 14 x = -1) (e2 : prvR h nx (nI y) = -1) (e3 : ¬ firR h nx 60 x = y) : RX (up (up g 22 x (nI y)) 23 y (nI x)) z (up h 14 x (nI y)) o nb nx := by
  obtain ⟨H1, H2, H3, r, H4⟩ := H
  obtain ⟨rk, hrk⟩ := rk_of hx H4
  refine ⟨fun k hk => ?_, H2, H3, fun k => if firR h nx 60 k = y then r k + r x + 1 else r k, fun k hk p hp q => ?_⟩
  · rw [prv_leg hx hxx hy hk e1 e2, up_o (a := 14) (j := 9) (by decide), up_o (a := 14) (j := 10) (by decide), up_o (a := 14) (j := 11) (by decide), up_o (a := 14) (j := 12) (by decide), up_o (a := 14) (j := 13) (by decide), up_o (a := 23) (j := 16) (by decide), up_o (a := 23) (j := 17) (by decide), up_o (a := 23) (j := 18) (by decide), up_o (a := 23) (j := 19) (by decide), up_o (a := 23) (j := 21) (by decide), up_o (a := 23) (j := 22) (by decide), up_o (a := 22) (j := 16) (by decide), up_o (a := 22) (j := 17) (by decide), up_o (a := 22) (j := 18) (by decide), up_o (a := 22) (j := 19) (by decide), up_o (a := 22) (j := 21) (by decide)]
    obtain ⟨⟨a1, a2, a3, a4, a5, a6⟩, b, c, d, e⟩ := H1 k hk
    have q6 : up g 22 x (nI y) 22 k = up h 14 x (nI y) 14 k := by
      by_cases q : k = x
      · subst q; rw [up_s, up_s]
      · rw [up_k q, up_k q]; exact a6
    have q23 : up (up g 22 x (nI y)) 23 y (nI x) 23 k = if k = y then nI x else prvR h nx (nI k) := by
      by_cases q : k = y
      · subst q; rw [up_s, if_pos rfl]
      · rw [up_k q, if_neg q, up_o (by decide)]; exact e
    have qd : up h 14 x (nI y) 14 k = -1 ∨ ∃ j, j < nx ∧ up h 14 x (nI y) 14 k = nI j := by
      by_cases q : k = x
      · subst q; rw [up_s]; exact Or.inr ⟨y, hy, rfl⟩
      · rw [up_k q]; exact d
    exact ⟨⟨a1, a2, a3, a4, a5, q6⟩, b, c, qd, q23⟩
  · rw [prv_leg hx hxx hy hk e1 e2] at q
    by_cases p1 : k = y
    · subst p1
      rw [if_pos rfl] at q
      have e4 : p = x := ((nI_eq (by omega) (by omega)).mp q).symm
      subst e4
      have e5 : firR h nx 60 k = k := firR_neg (r := 0) (by decide) (by rw [e2]; exact m1_neg)
      simp only [if_neg e3, if_pos e5]
      omega
    · rw [if_neg p1] at q
      have h1 := H4 k hk p hp q
      have h2 := firR_step hx hrk hk hp q
      simp only [h2]
      split <;> omega
