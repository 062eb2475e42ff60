/-! Pure: the relation, and the answers on both sides -/
def RV (v u : Nat → Int32) (nb nl nx : Nat) : Prop :=
  (v 2 = nI nb ∧ u 1 = nI nb) ∧ (v 3 = nI nl ∧ u 3 = nI nl) ∧ (v 4 = nI nx ∧ u 2 = nI nx) ∧ v 0 = u 6 ∧ v 1 = u 4 ∧ ∃ a, a < 16 ∧ u 6 = nI a
def RN (g : Nat → Nat → Int32) (z : Nat → Int64) (v : Nat → Int32) (h : Nat → Nat → Int32) (o : Nat → Bool) (u : Nat → Int32) (nb nl nx : Nat) : Prop :=
  (nb ≤ 60 ∧ nl ≤ 200 ∧ nx ≤ 60) ∧ RV v u nb nl nx ∧ RB g h nb ∧ RL g h nb nl ∧ RX g z h o nb nx ∧ u 5 = nI (cntN (ordX g) nx)
def RELA (g : Nat → Nat → Int32) (z : Nat → Int64) (v : Nat → Int32) (h : Nat → Nat → Int32) (o : Nat → Bool) (u : Nat → Int32) : Prop := ∃ nb nl nx, RN g z v h o u nb nl nx
theorem ordX_eq {g g' : Nat → Nat → Int32} (e : g' 21 = g 21) : ordX g' = ordX g := by funext k; unfold ordX; rw [e]
section EQ
variable {g : Nat → Nat → Int32} {z : Nat → Int64} {v : Nat → Int32} {h : Nat → Nat → Int32} {o : Nat → Bool} {u : Nat → Int32} {nb nl nx : Nat}
theorem RN_u0 (R : RN g z v h o u nb nl nx) (t : Int32) : RN g z v h o (upd u 0 t) nb nl nx := by
  obtain ⟨a, ⟨b1, b2, b3, b4, b5, b6⟩, c, d, e, f⟩ := R
  refine ⟨a, ⟨?_, ?_, ?_, ?_, ?_, ?_⟩, c, d, e, ?_⟩
  · rw [upd_n (by decide)]; exact b1
  · rw [upd_n (by decide)]; exact b2
  · rw [upd_n (by decide)]; exact b3
  · rw [upd_n (by decide)]; exact b4
  · rw [upd_n (by decide)]; exact b5
  · rw [upd_n (by decide)]; exact b6
  · rw [upd_n (by decide)]; exact f
/-! on -/
theorem on_eq (R : RN g z v h o u nb nl nx) (x y : Int32) : onR g z nb nx x y = onK h o nb nx x y := by
  obtain ⟨⟨hb, hl, hx⟩, -, B, -, X, -⟩ := R
  unfold onR onK
  by_cases q1 : inN nx x = true
  · obtain ⟨k, hk, rfl⟩ := inN_ix q1 (by omega)
    rw [if_pos q1, if_pos q1]
    by_cases q2 : inN nb y = true
    · obtain ⟨b, hb2, rfl⟩ := inN_ix q2 (by omega)
      rw [if_pos q2, if_pos q2, ix_nI (by omega), ix_nI (by omega), (X.1 k hk).1.1, (B.1 b hb2).1.1, RX_on hb hx X hk (by omega), RX_popc hb hx X hk]
      have h4 := (X.2.1 k hk).2
      simp only [(RX_ord hb hx X hk).2]
      by_cases q3 : h 9 k = h 1 b
      · rw [if_pos q3, if_pos q3]
        by_cases q4 : o (60 * k + b) = true
        · rw [if_pos q4, if_pos q4]
        · rw [if_neg q4, if_neg q4]
          by_cases q5 : bofR o nb k = 4
          · rw [if_pos q5, if_pos (by omega)]
          · rw [if_neg q5, if_neg (by omega)]
            cases ordX g k <;> rfl
      · rw [if_neg q3, if_neg q3]
    · rw [if_neg q2, if_neg q2]
  · rw [if_neg q1, if_neg q1]
theorem on_st (R : RN g z v h o u nb nl nx) (x y : Int32) : RN g (onZ g z nb nx x y) v h (onO h o nb nx x y) (upd u 0 0) nb nl nx := by
  have e := on_eq R x y
  unfold onZ onO
  rw [e]
  have R0 := RN_u0 R 0
  by_cases q : onK h o nb nx x y = true
  · rw [if_pos q, if_pos q]
    unfold onK at q
    obtain ⟨⟨hb, hl, hx⟩, V, B, L, X, U⟩ := R0
    by_cases q1 : inN nx x = true
    · obtain ⟨k, hk, rfl⟩ := inN_ix q1 (by omega)
      rw [if_pos q1] at q
      by_cases q2 : inN nb y = true
      · obtain ⟨b, hb2, rfl⟩ := inN_ix q2 (by omega)
        rw [if_pos q2, ix_nI (by omega), ix_nI (by omega)] at q
        rw [ix_nI (by omega), ix_nI (by omega)]
        have h4 := (X.2.1 k hk).2
        by_cases q3 : h 9 k = h 1 b
        · rw [if_pos q3] at q
          by_cases q4 : o (60 * k + b) = true
          · rw [if_pos q4] at q; cases q
          · rw [if_neg q4] at q
            by_cases q5 : bofR o nb k = 4
            · rw [if_pos q5] at q; cases q
            · exact ⟨⟨hb, hl, hx⟩, V, B, L, RX_put hb hx X hk hb2 (by simpa using q4) (by omega), U⟩
        · rw [if_neg q3] at q; cases q
      · rw [if_neg q2] at q; cases q
    · rw [if_neg q1] at q; cases q
  · rw [if_neg q, if_neg q]; exact R0
/-! land -/
theorem land_eq (R : RN g z v h o u nb nl nx) (x w : Int32) : lanR g nx x w = lanK h nx x w := by
  obtain ⟨⟨hb, hl, hx⟩, -, B, -, X, -⟩ := R
  unfold lanR lanK
  by_cases q1 : inN nx x = true
  · obtain ⟨k, hk, rfl⟩ := inN_ix q1 (by omega)
    rw [if_pos q1, if_pos q1, ix_nI (by omega), RX_lan hb hx X hk]
    simp only [(RX_l12 hb hx X hk).2]
    rfl
  · rw [if_neg q1, if_neg q1]
theorem land_st (R : RN g z v h o u nb nl nx) (x w : Int32) : RN (lanG g nx x w) z v (lanH h nx x w) o (upd u 0 0) nb nl nx := by
  have e := land_eq R x w
  unfold lanG lanH
  rw [e]
  have R0 := RN_u0 R 0
  by_cases q : lanK h nx x w = true
  · rw [if_pos q, if_pos q]
    unfold lanK at q
    obtain ⟨⟨hb, hl, hx⟩, V, B, L, X, U⟩ := R0
    by_cases q1 : inN nx x = true
    · obtain ⟨k, hk, rfl⟩ := inN_ix q1 (by omega)
      rw [if_pos q1, ix_nI (by omega)] at q
      by_cases q2 : 0 ≤ h 12 k
      · rw [if_pos q2] at q; cases q
      · rw [if_neg q2] at q
        by_cases q3 : inS w 0 1000000 = true
        · obtain ⟨w0, hw, rfl⟩ := inS_ix (M := 1000000) (by decide) q3
          rw [ix_nI (by omega)]
          refine ⟨⟨hb, hl, hx⟩, V, RB_of (fun j hj => up_o (by omega)) (fun j hj => up_o (by omega)) B, RL_of (fun j h1 h2 => up_o (by omega)) (fun j h1 h2 => up_o (by omega)) L, RX_land X hk hw, ?_⟩
          rw [ordX_eq (g := g) (up_o (by decide))]; exact U
        · rw [if_neg q3] at q; cases q
    · rw [if_neg q1] at q; cases q
  · rw [if_neg q, if_neg q]; exact R0
/-! arrive -/
theorem arr_at (R : RN g z v h o u nb nl nx) {c : Nat} (hc : c < 4) : arrS v (nI c) = decide ((u 6 >>> (nI c &&& 31)) &&& 1 = 1) := by
  obtain ⟨-, ⟨-, -, -, e, -, a, ha, e2⟩, -⟩ := R
  unfold arrS
  rw [e, e2]
  have := arr_eq a ha c hc
  by_cases q : nI a &&& ((1 : Int32) <<< (nI c &&& 31)) = 0
  · rw [if_pos q]
    rw [decide_eq_true q] at this
    simpa using this
  · rw [if_neg q]
    rw [decide_eq_false q] at this
    simpa using this
theorem arrive_eq (R : RN g z v h o u nb nl nx) (x : Int32) : arrR v x = arrK u x := by
  unfold arrR arrK
  rw [isCall_eq]
  by_cases q : inS x 0 3 = true
  · obtain ⟨c, hc, rfl⟩ := inS_ix (M := 3) (by decide) q
    rw [if_pos q, if_pos q, arr_at R (c := c) (by omega)]
    by_cases p : (u 6 >>> (nI c &&& 31)) &&& 1 = 1
    · rw [decide_eq_true p, if_pos rfl, if_pos p]
    · rw [decide_eq_false p, if_neg (by decide), if_neg p]
  · rw [if_neg q, if_neg q]
theorem arrive_st (R : RN g z v h o u nb nl nx) (x : Int32) : RN g z (arvV v x) h o (arrU u x) nb nl nx := by
  have e := arrive_eq R x
  unfold arvV arrU
  rw [e]
  by_cases q : arrK u x = true
  · rw [if_pos q, if_pos q]
    obtain ⟨s, ⟨b1, b2, b3, b4, b5, a, ha, b6⟩, B, L, X, U⟩ := R
    have hx : ∃ c, c < 4 ∧ x = nI c := by
      unfold arrK at q
      by_cases p : inS x 0 3 = true
      · obtain ⟨c, hc, e⟩ := inS_ix (M := 3) (by decide) p
        exact ⟨c, by omega, e⟩
      · rw [if_neg p] at q; cases q
    obtain ⟨c, hc, rfl⟩ := hx
    obtain ⟨d, hd, e3⟩ := arr_or a ha c hc
    refine ⟨s, ⟨?_, ?_, ?_, ?_, ?_, d, hd, ?_⟩, B, L, X, ?_⟩
    · rw [upd_n (by decide), upd_n (by decide), upd_n (by decide)]; exact b1
    · rw [upd_n (by decide), upd_n (by decide), upd_n (by decide)]; exact b2
    · rw [upd_n (by decide), upd_n (by decide), upd_n (by decide)]; exact b3
    · rw [upd_s, upd_s, b4]
    · rw [upd_n (by decide), upd_n (by decide), upd_n (by decide)]; exact b5
    · rw [upd_s, b6, e3]
    · rw [upd_n (by decide), upd_n (by decide)]; exact U
  · rw [if_neg q, if_neg q]; exact RN_u0 R 0
/-! leg -/
theorem leg_eq (R : RN g z v h o u nb nl nx) (x y : Int32) : legR g nx x y = legK h nx x y := by
  obtain ⟨⟨hb, hl, hx⟩, -, B, -, X, -⟩ := R
  unfold legR legK
  by_cases q1 : inN nx x = true
  · obtain ⟨k, hk, rfl⟩ := inN_ix q1 (by omega)
    rw [if_pos q1, if_pos q1]
    by_cases q2 : inN nx y = true
    · obtain ⟨b, hb2, rfl⟩ := inN_ix q2 (by omega)
      rw [if_pos q2, if_pos q2, ix_nI (by omega), ix_nI (by omega), (X.1 k hk).1.1, (X.1 b hb2).1.1, RX_fir hb hx X 60 k hk, (X.1 k hk).1.2.2.2.2.2, RX_g23 hb hx X hb2]
      by_cases q3 : h 9 k = h 9 b
      · rw [if_pos q3, if_pos q3]
      · rw [if_neg q3, if_neg q3]
        rcases (X.1 k hk).2.2.2.1 with e | ⟨j, hj, e⟩
        · rw [e, if_pos rfl, if_neg (show ¬ (0 : Int32) ≤ -1 by decide)]
          rcases prv_cases h nx (nI b) with ⟨e, -⟩ | ⟨j, hj, -, e⟩
          · rw [e, if_pos rfl, if_neg (show ¬ (0 : Int32) ≤ -1 by decide)]
          · rw [e, if_neg (nI_nm1 (by omega)), if_pos (nI_pos' (by omega))]
        · rw [e, if_neg (nI_nm1 (by omega)), if_pos (nI_pos' (by omega))]
    · rw [if_neg q2, if_neg q2]
  · rw [if_neg q1, if_neg q1]
theorem leg_st (R : RN g z v h o u nb nl nx) (x y : Int32) : RN (legG g nx x y) z v (legH h nx x y) o (upd u 0 0) nb nl nx := by
  have e := leg_eq R x y
  unfold legG legH
  rw [e]
  have R0 := RN_u0 R 0
  by_cases q : legK h nx x y = true
  · rw [if_pos q, if_pos q]
    unfold legK at q
    obtain ⟨⟨hb, hl, hx⟩, V, B, L, X, U⟩ := R0
    by_cases q1 : inN nx x = true
    · obtain ⟨k, hk, rfl⟩ := inN_ix q1 (by omega)
      rw [if_pos q1] at q
      by_cases q2 : inN nx y = true
      · obtain ⟨b, hb2, rfl⟩ := inN_ix q2 (by omega)
        rw [if_pos q2, ix_nI (by omega), ix_nI (by omega)] at q
        rw [ix_nI (by omega), ix_nI (by omega)]
        by_cases q3 : h 9 k = h 9 b
        · rw [if_pos q3] at q; cases q
        · rw [if_neg q3] at q
          by_cases q4 : 0 ≤ h 14 k
          · rw [if_pos q4] at q; cases q
          · rw [if_neg q4] at q
            by_cases q5 : 0 ≤ prvR h nx (nI b)
            · rw [if_pos q5] at q; cases q
            · rw [if_neg q5] at q
              by_cases q6 : firR h nx 60 k = b
              · rw [if_pos q6] at q; cases q
              · have e1 : h 14 k = -1 := by
                  rcases (X.1 k hk).2.2.2.1 with e | ⟨j, hj, e⟩
                  · exact e
                  · rw [e] at q4; exact absurd (nI_pos' (by omega)) q4
                have e2 : prvR h nx (nI b) = -1 := by
                  rcases prv_cases h nx (nI b) with ⟨e, -⟩ | ⟨j, hj, -, e⟩
                  · exact e
                  · rw [e] at q5; exact absurd (nI_pos' (by omega)) q5
                refine ⟨⟨hb, hl, hx⟩, V, RB_of (fun j hj => by rw [up_o (by omega), up_o (by omega)]) (fun j hj => up_o (by omega)) B, RL_of (fun j h1 h2 => by rw [up_o (by omega), up_o (by omega)]) (fun j h1 h2 => up_o (by omega)) L, RX_leg hx X hk hb2 e1 e2 q6, ?_⟩
                rw [ordX_eq (g := g) (by rw [up_o (by decide), up_o (by decide)])]; exact U
      · rw [if_neg q2] at q; cases q
    · rw [if_neg q1] at q; cases q
  · rw [if_neg q, if_neg q]; exact R0
theorem R_rk (R : RN g z v h o u nb nl nx) : ∃ rk, rkOk h nx rk := by
  obtain ⟨⟨hb, hl, hx⟩, -, -, -, ⟨-, -, -, r, H4⟩, -⟩ := R
  exact rk_of hx H4
theorem waits_eq (R : RN g z v h o u nb nl nx) (x : Int32) : pickN (fun k => waiX g z k) x nx = pickN (wnoR h o nb) x nx := by
  obtain ⟨⟨hb, hl, hx⟩, -, -, -, X, -⟩ := R
  exact pickN_congr (fun i hi => RX_wai hb hx X hi)
/-! sums that differ -/
theorem dif_eq (R : RN g z v h o u nb nl nx) {j : Nat} (hj : j < nb) : difB g nb j = difR h nb nl (nI j) := by
  obtain ⟨⟨hb, hl, hx⟩, -, B, ⟨cap, L1, -⟩, X, -⟩ := R
  unfold difB difR belR
  rw [cntN_congr (P := fun o => decide (g 4 o = nI j)) (R := fun k => decide (h 3 k = nI j)) (fun i hi => by rw [(B.1 i hi).1.2.2.1]), L1.2 j (by omega), sumN_congr (f := fun o => if g 4 o = nI j then g 13 o else 0) (g := fun k => if h 3 k = nI j then wofR h nl (nI k) else 0) (fun i hi => by rw [(B.1 i hi).1.2.2.1, L1.2 i (by omega)])]
theorem mtd_eq (R : RN g z v h o u nb nl nx) : mtdB g nb = dgR h nb nl := by
  have hd : ∀ j, j < nb → difB g nb j = difR h nb nl (nI j) := fun j hj => dif_eq R hj
  obtain ⟨⟨hb, hl, hx⟩, -, B, -, X, -⟩ := R
  have hm : ∀ b, b < nb → masF (h 3) 60 b < nb := fun b hb2 => masF_lt B.2.2 hb 60 b hb2
  have hs : ∀ m, m < nb → sodB g nb (nI m) = anyN (dgP h nb nl m) nb := fun m hm9 => by
    refine anyN_congr (fun i hi => ?_)
    show (decide (g 6 i = nI m) && !decide (difB g nb i = 0)) = (decide (masF (h 3) 60 i = m) && !decide (difR h nb nl (nI i) = 0))
    have := hm i hi
    rw [hd i hi, (B.1 i hi).2.1.2.1, decide_eq_decide.mpr (nI_eq (a := masF (h 3) 60 i) (b := m) (by omega) (by omega))]
  refine cntN_congr (fun m hm9 => ?_)
  show (decide (g 6 m = nI m) && sodB g nb (nI m)) = anyN (dgP h nb nl m) nb
  rw [hs m hm9]
  cases q : anyN (dgP h nb nl m) nb with
  | false => exact Bool.and_false _
  | true =>
    obtain ⟨b, hb2, e⟩ := anyN_on q
    have e2 : masF (h 3) 60 b = m := by
      have e3 : (decide (masF (h 3) 60 b = m) && !decide (difR h nb nl (nI b) = 0)) = true := e
      rw [Bool.and_eq_true] at e3
      exact of_decide_eq_true e3.1
    have e4 : masF (h 3) 60 m = m := by rw [← e2]; exact masF_idem B.2.2 hb hb2
    rw [(B.1 m hm9).2.1.2.1, e4, decide_eq_true rfl, Bool.and_true]
theorem count_eq (R : RN g z v h o u nb nl nx) (k : Nat) (hk : k < 9) : cntS g z v nb nl nx k = cntK h o u nb nl nx k := by
  have hm := mtd_eq R
  obtain ⟨⟨hb, hl, hx⟩, ⟨-, -, -, v0, v1, -⟩, B, -, X, U⟩ := R
  rcases (show k = 0 ∨ k = 1 ∨ k = 2 ∨ k = 3 ∨ k = 4 ∨ k = 5 ∨ k = 6 ∨ k = 7 ∨ k = 8 by omega) with rfl | rfl | rfl | rfl | rfl | rfl | rfl | rfl | rfl
  · rfl
  · rfl
  · rfl
  · exact v1
  · exact U.symm
  · show nI (cntN (fun k => lanX g k) nx) = nI (cntN (lanP h) nx)
    rw [cntN_congr (P := fun k => lanX g k) (R := lanP h) (fun i hi => RX_lan hb hx X hi)]
  · show nI (cntN (fun k => waiX g z k) nx) = nI (cntN (wnoR h o nb) nx)
    rw [cntN_congr (P := fun k => waiX g z k) (R := wnoR h o nb) (fun i hi => RX_wai hb hx X hi)]
  · exact v0
  · show nI (mtdB g nb) = nI (dgR h nb nl)
    rw [hm]
/-! what landed -/
theorem lno_eq (R : RN g z v h o u nb nl nx) {b : Nat} (hb2 : b < nb) : lnoX g z nx (nI b) = lwtR h o nb nx b := by
  obtain ⟨⟨hb, hl, hx⟩, -, B, -, X, -⟩ := R
  refine sumN_congr (fun k hk => ?_)
  show (if onX z k (nI b) = true then (if lanX g k = true then shaX g z k (nI b) else 0) else 0) = lshR h o nb b k
  unfold shaX lshR
  rw [RX_on hb hx X hk (by omega), RX_lan hb hx X hk, RX_popc hb hx X hk, RX_mask hb hx X hk (by omega), (X.1 k hk).1.2.2.2.1]
  simp only [(RX_l12 hb hx X hk).2]
  by_cases q : o (60 * k + b) = true
  · rw [if_pos q, if_pos q]
    have hp := bofR_pos hb2 q
    have hle := bofR_le o nb k
    rw [if_neg (show ¬ nI (bofR o nb k) = 0 from fun z => by have := (nI_eq (b := 0) (by omega) (by decide)).mp z; omega)]
  · rw [if_neg q, if_neg q]
theorem lsh_nat (R : RN g z v h o u nb nl nx) {b k : Nat} (hb2 : b < nb) (hk : k < nx) : ∃ a, a ≤ 1000001 ∧ lshR h o nb b k = nI a := by
  obtain ⟨⟨hb, hl, hx⟩, -, B, -, X, -⟩ := R
  unfold lshR
  by_cases q : o (60 * k + b) = true
  · rw [if_pos q]
    rcases (X.1 k hk).2.1 with e | ⟨w, hw, e⟩
    · rw [e, if_neg (by decide)]; exact ⟨0, by decide, rfl⟩
    · have hp := bofR_pos hb2 q
      have hle := bofR_le o nb k
      rw [e, if_pos (nI_pos' (by omega)), pk_div (by omega) hp (by omega)]
      have hd : w / bofR o nb k ≤ w := Nat.div_le_self _ _
      by_cases q2 : nI w - nI (w / bofR o nb k) * nI (bofR o nb k) ≤ nI (cntN (fun i => o (60 * k + i)) b)
      · rw [if_pos q2]; exact ⟨w / bofR o nb k, by omega, Int32.add_zero _⟩
      · rw [if_neg q2]; exact ⟨w / bofR o nb k + 1, by omega, nI_1 _⟩
  · rw [if_neg q]; exact ⟨0, by decide, rfl⟩
theorem lwt_nat (R : RN g z v h o u nb nl nx) {b : Nat} (hb2 : b < nb) : ∃ a, a ≤ 60000060 ∧ lwtR h o nb nx b = nI a := by
  have hs : ∀ k : Nat, ∃ a, k < nx → (a ≤ 1000001 ∧ lshR h o nb b k = nI a) := fun k => by
    by_cases q : k < nx
    · obtain ⟨a, h1, h2⟩ := lsh_nat R hb2 q
      exact ⟨a, fun _ => ⟨h1, h2⟩⟩
    · exact ⟨0, fun z => absurd z q⟩
  obtain ⟨⟨hb, hl, hx⟩, -⟩ := R
  let a : Nat → Nat := fun k => (hs k).choose
  have ha : ∀ k, k < nx → a k ≤ 1000001 ∧ lshR h o nb b k = nI (a k) := fun k => (hs k).choose_spec
  refine ⟨natS a nx, ?_, sumN_nat (fun k hk => (ha k hk).2)⟩
  have := natS_const (a := a) (c := 1000001) (n := nx) (fun k hk => (ha k hk).1)
  omega
end EQ
theorem short_eq {x y : Int32} : (if x - y < 0 then 0 else x - y) = (if x - y ≤ 0 then (0 : Int32) else x - y) := by
  by_cases q : x - y < 0
  · rw [if_pos q, if_pos (Int32.le_of_lt q)]
  · rw [if_neg q]
    by_cases p : x - y ≤ 0
    · rw [if_pos p]
      exact Int32.le_antisymm p (Int32.not_lt.mp q)
    · rw [if_neg p]
theorem over_eq {a b : Nat} (ha : a < 2 ^ 30) (hb : b < 2 ^ 30) : (if nI b - nI a < 0 then 0 else nI b - nI a) = (if 0 ≤ nI a - nI b then (0 : Int32) else -(nI a - nI b)) := by
  rcases Nat.le_total a b with q | q
  · have e1 : nI a - nI b = -(nI (b - a)) := by rw [← nI_sub q, Int32.neg_sub]
    rw [nI_sub q, e1, if_neg (nI_pos (by omega)), Int32.neg_neg]
    by_cases p : b - a = 0
    · rw [p]; rfl
    · have : ¬ (0 : Int32) ≤ -(nI (b - a)) := by
        rw [Int32.not_le, Int32.lt_iff_toInt_lt]
        rw [Int32.toInt_neg, nI_toInt (by omega)]
        have e : (-((b - a : Nat) : Int)).bmod (2 ^ 32) = -((b - a : Nat) : Int) := by
          apply Int.bmod_eq_of_le <;> omega
        rw [e]
        show -((b - a : Nat) : Int) < 0
        omega
      rw [if_neg this]
  · have e1 : nI b - nI a = -(nI (a - b)) := by rw [← nI_sub q, Int32.neg_sub]
    rw [nI_sub q, e1, if_pos (nI_pos' (by omega))]
    by_cases p : a - b = 0
    · rw [p]; rfl
    · have : -(nI (a - b)) < 0 := by
        rw [Int32.lt_iff_toInt_lt]
        rw [Int32.toInt_neg, nI_toInt (by omega)]
        have e : (-((a - b : Nat) : Int)).bmod (2 ^ 32) = -((a - b : Nat) : Int) := by
          apply Int.bmod_eq_of_le <;> omega
        rw [e]
        show -((a - b : Nat) : Int) < 0
        omega
      rw [if_pos this]
