/-! Static methods with an exception table: contracts and calls -/
def XG (strs : List (Nat × String)) (N : Nat) (U : State) (H : Heap) : Prop := XF strs N U H ∧ va_Nc "java/lang/IllegalStateException" "java/lang/IllegalArgumentException" U ∧ va_Nc "java/util/NoSuchElementException" "java/lang/IndexOutOfBoundsException" U
theorem XG.warm {strs : List (Nat × String)} {N : Nat} {s U : State} {H : Heap} (hW : s.WarmedH U.vm) (h : XG strs N s H) : XG strs N U H := ⟨h.1.warm hW, h.2.1.moved hW.alike, h.2.2.moved hW.alike⟩
theorem XG.kept {strs : List (Nat × String)} {N : Nat} {U : State} {H H1 : Heap} (hq : ∀ a : Nat, a < N → H1[a]? = H[a]?) (h : XG strs N U H) : XG strs N U H1 := ⟨h.1.kept hq, h.2⟩
/-- a method that catches what its callee threw, answers k, and has written nothing -/
def WT (l : Launch) (y : MethodName) (ws : List Cond) (rm : Room) (av : List Value) (D : va_G) (cl : List vw_C) (w : va_W) (tys : List (ClassId × FieldType)) (strs : List (Nat × String)) (k : Int32) : Prop :=
  ∀ N sz : Nat, Met l y ws rm (va_Pc av (fun U => U.heap.size = sz ∧ va_P D cl w U.heap ∧ va_K D cl tys U ∧ XG strs N U U.heap)) (va_Qi (fun (r' : Int32) (_ : Unit) => r' = k) (fun _ _ => True) (fun q => sz ≤ q)) 1 6 (fun q => sz ≤ q)
section TW
variable {l : Launch} {y : MethodName} {rm : Room} {av : List Value} {D : va_G} {cl : List vw_C} {w w' : va_W} {tys : List (ClassId × FieldType)} {cc : ByteArray} {maxL : Nat} {r : Int32} {hh : List (Nat × Nat × Nat × Nat)} {strs : List (Nat × String)}
theorem wrW_of (hy : plainName y.cls = true) (hent : (lg_sl av).length ≤ maxL)
    (body : ∀ (p : Program) (e : Env) (s : State) (m : MethodId) (args : Array Value) (below : List Frame) (meth : Method) (c : Code) (Q : State → Prop) (ls : Array Slot) (A : Nat → Prop),
      p.tables.exec = Jvm.exec → c.code = cc → c.maxLocals = maxL → (∀ w ∈ TB, w.before args s = true) → s.vm.findClass y.cls = some m.cls → va_P D cl w s.heap → va_K D cl tys s → va_D A w → va_S A s.heap s.heap [] → (∀ q : Nat, s.heap.size ≤ q → A q) → lv_has ls maxL (lv_args 0 av) →
      (∀ (v : Int32) (pc : Nat) (ls : Array Slot) (H : Heap) (locs : List Loc), v = r → va_P D cl w' H → va_S A s.heap H locs → decode cc pc = .ok (.ireturn, 1) → W p l e rm s m args below meth c H locs 0 0 Q (F0 m pc ls [.int v])) →
      W p l e rm s m args below meth c s.heap [] 0 0 Q (F0 m 0 ls [])) :
    WRi l y (.codeWith y cc maxL (some .int) hh :: TB) rm av D cl w w' tys r := by
  intro sz
  refine va_MetW (cc := cc) (maxL := maxL) (ret := some .int) (hh := hh) hy rfl ?_
  intro p e s m args below meth c s₁ B hml hv
  obtain ⟨rfl, hsz, hP, hK, hD0⟩ := hv
  subst hsz
  have hl := lv_entry av hent
  rw [lg_entry_eq]
  generalize (lg_sl av ++ List.replicate (maxL - (lg_sl av).length) Slot.unset).toArray = ls at hl ⊢
  refine body p e s m _ below meth c _ ls (va_A w s.heap.size) B.exec B.bytes hml (fun w hw => atoms_spec (ws := .codeWith y cc maxL (some .int) hh :: TB) B.pre w (List.mem_cons_of_mem _ hw)) (findClass_of_methodNamed B.named) hP hK hD0.self va_S.rf (fun q h => Or.inr h) hl ?_
  intro v pc ls H locs hv hP1 hS hd
  subst hv
  exact W.zret B.exec B.bytes B.returns rfl (fun t ht _ => ⟨⟨_, (), rfl, rfl, show va_P D cl w' t.heap by rw [ht]; exact hP1⟩, hS.F ht⟩) hS.2.2 hd (hlocks := B.notSynchronized)
theorem wt_of (hy : plainName y.cls = true) (hent : (lg_sl av).length ≤ maxL) {k : Int32}
    (body : ∀ (p : Program) (e : Env) (s : State) (m : MethodId) (args : Array Value) (below : List Frame) (meth : Method) (c : Code) (Q : State → Prop) (ls : Array Slot) (N : Nat),
      p.tables.exec = Jvm.exec → c.code = cc → c.maxLocals = maxL → (∀ w ∈ TB, w.before args s = true) → s.vm.findClass y.cls = some m.cls → va_P D cl w s.heap → va_K D cl tys s → XG strs N s s.heap → c.exceptionTable.toList = tableOf hh → lv_has ls maxL (lv_args 0 av) →
      (∀ (v : Int32) (pc : Nat) (ls : Array Slot) (H : Heap), v = k → s.heap.size ≤ H.size → (∀ q : Nat, q < s.heap.size → H[q]? = s.heap[q]?) → decode cc pc = .ok (.ireturn, 1) → W p l e rm s m args below meth c H [] 1 6 Q (F0 m pc ls [.int v])) →
      W p l e rm s m args below meth c s.heap [] 0 0 Q (F0 m 0 ls [])) :
    WT l y (.codeWith y cc maxL (some .int) hh :: TB) rm av D cl w tys strs k := by
  intro N sz
  refine va_MetW (cc := cc) (maxL := maxL) (ret := some .int) (hh := hh) hy rfl ?_
  intro p e s m args below meth c s₁ B hml hv
  obtain ⟨rfl, hsz, hP, hK, hX⟩ := hv
  subst hsz
  have htab : c.exceptionTable.toList = tableOf hh := by
    obtain ⟨m9, meth9, c9, hn9, h1, h2, -, -, h7, -⟩ := Cond.codeWith_spec (atoms_spec (ws := .codeWith y cc maxL (some .int) hh :: TB) B.pre _ List.mem_cons_self)
    cases Option.some.inj (hn9.symm.trans B.named)
    cases Option.some.inj (h1.symm.trans B.method)
    cases Option.some.inj (h2.symm.trans (Stand.of_body B).code)
    rw [← h7, table_eq]
  have hl := lv_entry av hent
  rw [lg_entry_eq]
  generalize (lg_sl av ++ List.replicate (maxL - (lg_sl av).length) Slot.unset).toArray = ls at hl ⊢
  refine body p e s m _ below meth c _ ls N B.exec B.bytes hml (fun w hw => atoms_spec (ws := .codeWith y cc maxL (some .int) hh :: TB) B.pre w (List.mem_cons_of_mem _ hw)) (findClass_of_methodNamed B.named) hP hK hX htab hl ?_
  intro v pc ls H hv hz hk hd
  subst hv
  exact W.zret B.exec B.bytes B.returns rfl (fun t ht _ => ⟨⟨_, (), rfl, rfl, trivial⟩, by rw [ht]; exact hz, fun q h1 _ => by rw [ht]; exact hk q h1⟩) (fun q h => by cases h) hd (hlocks := B.notSynchronized)
/-- what only reads writes its world as it was -/
theorem rd_wr {ws : List Cond} (h : RD l y ws rm av D cl w tys r) : WRi l y ws rm av D cl w w tys r := by
  intro sz p e ha hc hk s m args below hf happ hP hK
  obtain ⟨n, o, h1, h2, h3, ⟨h4, h4b⟩, L, h5, h6⟩ := h p e ha hc hk s m args below hf happ ⟨hP.1, hP.2.2.1, hP.2.2.2.1⟩ hK
  refine ⟨n, o, h1, h2, h3, ⟨⟨r, (), h4, rfl, ?_⟩, ?_, fun q _ _ => ?_⟩, L, h5, fun q hq => (h6 q hq).elim⟩
  · show va_P D cl w (stepsAlone p.tables e n s).heap
    rw [h4b]; exact hP.2.2.1
  · rw [h4b]; exact Nat.le_refl _
  · rw [h4b]
end TW
/-! the calls -/
abbrev CallSW (R : Room) (s : State) (args : Array Value) (own : String) (index : Nat) (y : MethodName) (bytes : ByteArray) (maxL : Nat) (ret : Option FieldType) (hh : List (Nat × Nat × Nat × Nat)) (ws : List Cond) (rm : Room) (mc ms n : Nat) : Prop :=
  (rm.cells = mc ∧ rm.slots = ms ∧ rm.frames + 1 ≤ R.frames ∧ 8 + (maxL + 11) + rm.locals ≤ R.locals ∧ (∀ w ∈ ws, ∀ (a' : Array Value) (U : State), s.WarmedH U.vm → w.before a' U = true) ∧ Cond.codeWith y bytes maxL ret hh ∈ ws) ∧
  (Cond.codeWith y bytes maxL ret hh).before args s = true ∧ (Cond.initialized y.cls).before args s = true ∧ (y.cls ≠ "java/lang/invoke/MethodHandle" ∧ y.cls ≠ "java/lang/invoke/VarHandle") ∧ (∀ sig, parseMethodDescriptor y.desc = some sig → n = sig.parameters.length) ∧ (Cond.methodLink own index y).before args s = true ∧ (Cond.static y).before args s = true
section TWC
variable {p : Program} {l : Launch} {e : Env} {R : Room} {s : State} {m : MethodId} {args : Array Value} {below : List Frame} {meth : Method} {c : Code} {H : Heap} {locs : List Loc} {cells slots : Nat} {Q : State → Prop}
variable {y : MethodName} {rm : Room} {As rest st0 : List Value} {D : va_G} {cl : List vw_C} {w w' wr : va_W} {tys : List (ClassId × FieldType)} {cc bytes : ByteArray} {maxL nL n index pc mc ms : Nat} {r : Int32} {ret : Option FieldType} {own C : String} {ls : Array Slot} {A : Nat → Prop} {H0 : Heap} {hh : List (Nat × Nat × Nat × Nat)} {strs : List (Nat × String)}
theorem cwSW (n : Nat) (ht : ∀ w ∈ TB, w.before args s = true) (h1 : Cond.methodLink own index y ∈ TB) (h2 : Cond.static y ∈ TB) (h4 : Cond.initialized y.cls ∈ TB) (h5 : Cond.codeWith y bytes maxL ret hh ∈ TB) (hrc : rm.cells = mc) (hrs : rm.slots = ms)
    (hd : y.cls ≠ "java/lang/invoke/MethodHandle" ∧ y.cls ≠ "java/lang/invoke/VarHandle" ∧ (parseMethodDescriptor y.desc).map (fun d => d.parameters.length) = some n) (hR : rm.frames + 1 ≤ R.frames ∧ 8 + (maxL + 11) + rm.locals ≤ R.locals) :
    CallSW R s args own index y bytes maxL ret hh (.codeWith y bytes maxL ret hh :: TB) rm mc ms n := by
  have hG : GoodIn TB (.codeWith y bytes maxL ret hh :: TB) := by
    intro w hw
    have hm : w ∈ TB := by
      rcases List.mem_cons.mp hw with rfl | h
      · exact h5
      · exact h
    exact ⟨hm, good_of_word (tb_good w hm)⟩
  refine ⟨⟨hrc, hrs, hR.1, hR.2, pay_in ht hG, List.mem_cons_self⟩, ht _ h5, ht _ h4, ⟨hd.1, hd.2.1⟩, fun sig h => ?_, ht _ h1, ht _ h2⟩
  have h9 := hd.2.2
  rw [h] at h9
  exact (Option.some.inj h9).symm
theorem runSW {ws : List Cond} {Pc : Array Value → State → Prop} {Qc : Array Value → State → Outcome → State → Prop} {free : Addr → Prop} {g : JFrame} (S : CallFix p m c cc nL s args TB own) (hM : Met l y ws rm Pc Qc mc ms free) (cw : CallSW R s args own index y bytes maxL ret hh ws rm mc ms n) (hp : PreS s H Pc As)
    (hg : g.method = m) (hn : As.length = n) (hsize : g.locals.size = nL) (hstack : g.stack = As.reverse ++ rest) (hW : 2 * g.monitorRoom + (rest.map fun v => v.category).sum ≤ 8) (hdg : decode cc g.pc = .ok (.invokestatic index, 3)) (hf : cells + mc ≤ R.cells ∧ slots + ms ≤ R.slots) :
    va_Run p l e R s m args below meth c H locs cells slots mc ms g rest (Qc As.toArray) (free) := by
  obtain ⟨⟨hrc, hrs, hfr, hlo, hws, hcw⟩, hcode, hini, hy, hlen, hl, hstt⟩ := cw
  have hK : Back l R p e below s args y 3 8 (PreOf R mc ms Pc) (PostOf Qc mc ms free) := va_backW (hh := hh) (bytes := bytes) (maxL := maxL) (ret := ret) hM hp.1 hrc hrs hfr hlo hws hcw (fun a' U hW => word_at hW (Or.inl (by first | rfl | simp [Cond.onTables, Cond.keeps, Cond.steady])) hini)
  obtain ⟨hx, hb, hml, ho, -⟩ := S
  intro T hT X
  obtain ⟨mk, methM, cM, hnamed, hmethM, -, -, -, -, -, -, hsigM⟩ := Cond.codeWith_spec hcode
  have hstatic : methM.isStatic = true := Cond.static_spec hnamed hmethM hstt
  obtain ⟨kP, hkP, -⟩ := className_of_methodNamed hnamed
  have hinitP : kP.init = .initialized := Cond.initialized_spec (findClass_of_methodNamed hnamed) hkP hini
  obtain ⟨vm₁, X₁, hstep₁⟩ := X.invokestatic hx ho hl hnamed hmethM hstatic hkP hinitP hy (g := g) hg (argsL := As) (rest := rest) (hn.trans (hlen _ hsigM)) hstack (by rw [hb]; exact hdg)
  obtain ⟨v, ⟨U', l2, c2, s2⟩, X', ⟨g', mk', t, L, e1, e2, hq, h1, hL, h2, h3⟩, hsteps⟩ := hK m meth c ⟨T.setVm vm₁, locs, cells, slots⟩ { g with stack := rest } (.invokestatic index) mk As.toArray X₁ hg (hsize.trans hml.symm) (by rw [hb]; exact hdg) hW (X₁.named hnamed) ⟨hf.1, hf.2, hp.2 (T.setVm vm₁) hT X₁.warmed⟩
  dsimp only [Pt.U, Pt.locs, Pt.cells, Pt.slots] at X' e1 e2 h1 h2 h3 hsteps
  subst h1; subst h2; subst h3
  exact ⟨v, (T.setVm vm₁).calling g' mk' As.toArray, t, U', L, hT, X', hL, e1, e2, hq, fun target h => hstep₁ _ fun acts => by rw [doInvoke_state]; exact hsteps.trans h⟩
/-- a call that writes its world, beside another -/
theorem wrSW (S : CallFix p m c cc nL s args TB own) (hM : WRi l y (.codeWith y bytes maxL ret hh :: TB) rm As D cl w w' tys r) (cw : CallSW R s args own index y bytes maxL ret hh (.codeWith y bytes maxL ret hh :: TB) rm 0 0 n) (hP : va_P D cl w H) (hPr : va_P D cl wr H) (hDD : va_D A (wr ++ w)) (hfst : w'.map (·.1) = w.map (·.1)) (hK : va_K D cl tys s) (hS : va_S A H0 H locs) (hA : ∀ q, H0.size ≤ q → A q)
    (hn : As.length = n) (hls : ls.size = nL) (hst : st0 = As.reverse ++ rest) (hroom : 2 * (F0 m pc ls st0).monitorRoom + (rest.map fun v => v.category).sum ≤ 8) (hdg : decode cc pc = .ok (.invokestatic index, 3)) (hf : cells ≤ R.cells ∧ slots ≤ R.slots)
    (kk : ∀ (H1 : Heap) (locs1 : List Loc), va_P D cl w' H1 → va_P D cl wr H1 → va_D A (wr ++ w') → va_S A H0 H1 locs1 → W p l e R s m args below meth c H1 locs1 cells slots Q (F0 m (pc + 3) ls (.int r :: rest))) : W p l e R s m args below meth c H locs cells slots Q (F0 m pc ls st0) := by
  have hD := fr_r hDD
  refine va_calli (runSW (As := As) (rest := rest) S (hM H.size) cw ⟨fb_W, fun U hU hW => ⟨rfl, by rw [hU], by rw [hU]; exact hP, va_K.moved hW.alike hK, hD.weaken (fun _ _ _ _ => trivial)⟩⟩ rfl hn hls hst hroom hdg hf) hS (fun q _ h => free_W hS hD hA q h) (free_W hS hD hA) (fun r' u t H1 locs1 ht hvm hw hB hz hk hS1 => ?_)
  subst hw
  exact kk H1 locs1 (by rw [← ht]; exact hB) (fr_keep hPr hDD hk) (fr_fst hfst hDD) hS1
/-- a call that answers k behind a throw: all that was there is as it was -/
theorem wtSW {k : Int32} {N : Nat} (S : CallFix p m c cc nL s args TB own) (hM : WT l y (.codeWith y bytes maxL ret hh :: TB) rm As D cl w tys strs k) (cw : CallSW R s args own index y bytes maxL ret hh (.codeWith y bytes maxL ret hh :: TB) rm 1 6 n) (hP : va_P D cl w H) (hK : va_K D cl tys s) (hX : XG strs N s H) (hS : va_S A H0 H locs) (hA : ∀ q, H0.size ≤ q → A q)
    (hn : As.length = n) (hls : ls.size = nL) (hst : st0 = As.reverse ++ rest) (hroom : 2 * (F0 m pc ls st0).monitorRoom + (rest.map fun v => v.category).sum ≤ 8) (hdg : decode cc pc = .ok (.invokestatic index, 3)) (hf : cells + 1 ≤ R.cells ∧ slots + 6 ≤ R.slots)
    (kk : ∀ (H1 : Heap) (locs1 : List Loc), H.size ≤ H1.size → (∀ q : Nat, q < H.size → H1[q]? = H[q]?) → va_S A H0 H1 locs1 → W p l e R s m args below meth c H1 locs1 (cells + 1) (slots + 6) Q (F0 m (pc + 3) ls (.int k :: rest))) : W p l e R s m args below meth c H locs cells slots Q (F0 m pc ls st0) := by
  have hfb : FrameBlind (va_Pc As (fun U => U.heap.size = H.size ∧ va_P D cl w U.heap ∧ va_K D cl tys U ∧ XG strs N U U.heap)) := fun a U g mk q => by
    obtain ⟨q0, q1, qP, qK, qX⟩ := q
    exact ⟨q0, q1, qP, va_K.moved (u := U) (U := U.calling g mk a) (Vm.Alike.refl U.vm) qK, XG.warm (s := U) (U := U.calling g mk a) (State.WarmedH.refl U) qX⟩
  refine va_calli (runSW (As := As) (rest := rest) S (hM N H.size) cw ⟨hfb, fun U hU hW => ⟨rfl, by rw [hU], by rw [hU]; exact hP, va_K.moved hW.alike hK, by rw [hU]; exact hX.warm hW⟩⟩ rfl hn hls hst hroom hdg hf) hS (fun q h1 h2 => absurd h1 (Nat.not_lt.mpr h2)) (fun q h => hA q (Nat.le_trans hS.1 h)) (fun r' u t H1 locs1 ht hvm hw hB hz hk hS1 => ?_)
  subst hw
  exact kk H1 locs1 hz (fun q h => hk q h (Nat.not_le.mpr h)) hS1
end TWC
section TWB
variable {l : Launch} {D : va_G} {w w' : va_W} {tys : List (ClassId × FieldType)} {b oa : Nat} {ko : ClassId} {f : Nat → Int64} {fs : List Value} {yM yL : MethodName} {bM cL : ByteArray} {mL index pE mM : Nat} {rmM rmL : Room} {x y q r k : Int32} {hh : List (Nat × Nat × Nat × Nat)} {strs : List (Nat × String)} {E : String} {ph : Nat}
theorem va_P_l {D : va_G} {cl : List vw_C} {a b : va_W} {H : Heap} (h : va_P D cl (a ++ b) H) : va_P D cl a H := fun k q hk => h k q (by rw [List.getElem?_append_left (List.getElem?_eq_some_iff.mp hk).1]; exact hk)
theorem va_P_r {D : va_G} {cl : List vw_C} {a b : va_W} {H : Heap} (h : va_P D cl (a ++ b) H) : va_P D cl b H := fun k q hk => h (a.length + k) q (by rw [List.getElem?_append_right (Nat.le_add_right _ _), Nat.add_sub_cancel_left]; exact hk)
theorem va_K_r {D : va_G} {cl : List vw_C} {a b : List (ClassId × FieldType)} {U : State} (h : va_K D cl (a ++ b) U) : va_K D cl b U := ⟨h.1, fun k q hk => h.2 (a.length + k) q (by rw [List.getElem?_append_right (Nat.le_add_right _ _), Nat.add_sub_cancel_left]; exact hk)⟩
def wO (oa : Nat) (ko : ClassId) (f : Nat → Int64) : va_W := [(oa, .inl (ko, 1, .inr (.inl f)))]
theorem wrap3 (hM : WRi l yM (.code yM bM mM (some .int) :: TB) rmM [.ref b, .int x, .int y, .int q] D classes w w' tys r) (hfst : w'.map (·.1) = w.map (·.1)) (hw0 : w[0]? = some (b, .inr (0, fs))) (hy : yL.cls = R_L)
    (hcw : ∀ (s : State) (args : Array Value), (∀ w ∈ TB, w.before args s = true) → CallW rmL s args R_L R_M index yM bM mM (some .int) (.code yM bM mM (some .int) :: TB) rmM 0 0 3)
    (d0 : decode cL 0 = .ok (.aload 4, 2)) (d2 : decode cL 2 = .ok (.iconst 0, 1)) (d3 : decode cL 3 = .ok (.aload_n 0, 1)) (d4 : decode cL 4 = .ok (.iload_n 1, 1)) (d5 : decode cL 5 = .ok (.iload_n 2, 1)) (d6 : decode cL 6 = .ok (.iload_n 3, 1)) (d7 : decode cL 7 = .ok (.invokevirtual index, 3)) (d10 : decode cL 10 = .ok (.i2l, 1)) (d11 : decode cL 11 = .ok (.lastore, 1)) {off : Int} (d12 : decode cL 12 = .ok (.goto off, 3)) (hoff : ((12 : Nat) : Int) + off = (pE : Int)) (d13 : decode cL pE = .ok (.iconst 0, 1)) (d14 : decode cL (pE + 1) = .ok (.ireturn, 1)) :
    WRi l yL (.codeWith yL cL 6 (some .int) hh :: TB) rmL [.ref b, .int x, .int y, .int q, .ref oa] D classes (wO oa ko f ++ w) (wO oa ko (vp_updL f 0 r.toInt64) ++ w') ([(ko, .long)] ++ tys) 0 := by
  refine wrW_of (by rw [hy]; decide +kernel) (Nat.le_of_ble_eq_true rfl) ?_
  intro p e s m args below meth c Q ls A hx hb hml htb hown hP hK hD hS hA hl hret
  have hl : lv_has ls 6 [(0, .ref b), (1, .int x), (2, .int y), (3, .int q), (4, .ref oa)] := hl
  rw [hy] at hown
  have hP0 := va_P_l hP
  have hP1 := va_P_r hP
  have hK1 := va_K_r hK
  refine lv_aload hx hb d0 (lv_at hl 4 rfl) ?_
  refine lv_iconst (v := 0) hx hb d2 (by decide) ?_
  refine lv_aload_n hx hb d3 rfl (lv_at hl 0 rfl) ?_
  refine lv_iload_n hx hb d4 rfl (lv_at hl 1 rfl) ?_
  refine lv_iload_n hx hb d5 rfl (lv_at hl 2 rfl) ?_
  refine lv_iload_n hx hb d6 rfl (lv_at hl 3 rfl) ?_
  refine wrVF (As := [.int x, .int y, .int q]) (rest := [.int 0, .ref oa]) (b := b) ⟨hx, hb, hml, hown, htb⟩ hM (hcw s args htb) hP1 hP0 hD hfst hK1 hS hA (va_recv hK1 hP1 (ci := 0) (q0 := 0) rfl hw0) rfl hl.1 rfl (lv_room (Nat.le_of_ble_eq_true rfl)) d7 ⟨Nat.zero_le _, Nat.zero_le _⟩ (fun H locs hP1 hP0 hD hS => ?_)
  refine lv_i2l (v := r.toInt64) hx hb d10 rfl ?_
  refine q_last hx hb hK (hP0.app hP1) hD hS 0 0 rfl rfl 0 (x := r.toInt64) (by decide) (by decide) d11 (fun H locs hP hD hS => ?_)
  refine lv_goto (tgt := pE) hx hb d12 hoff ?_
  refine lv_iconst (v := 0) hx hb d13 (by decide) ?_
  exact hret _ _ _ _ _ rfl hP hS d14
theorem wrap2 (hM : WRi l yM (.code yM bM mM (some .int) :: TB) rmM [.ref b, .int x, .int y] D classes w w' tys r) (hfst : w'.map (·.1) = w.map (·.1)) (hw0 : w[0]? = some (b, .inr (0, fs))) (hy : yL.cls = R_L)
    (hcw : ∀ (s : State) (args : Array Value), (∀ w ∈ TB, w.before args s = true) → CallW rmL s args R_L R_M index yM bM mM (some .int) (.code yM bM mM (some .int) :: TB) rmM 0 0 2)
    (d0 : decode cL 0 = .ok (.aload_n 3, 1)) (d2 : decode cL 1 = .ok (.iconst 0, 1)) (d3 : decode cL 2 = .ok (.aload_n 0, 1)) (d4 : decode cL 3 = .ok (.iload_n 1, 1)) (d5 : decode cL 4 = .ok (.iload_n 2, 1)) (d7 : decode cL 5 = .ok (.invokevirtual index, 3)) (d10 : decode cL 8 = .ok (.i2l, 1)) (d11 : decode cL 9 = .ok (.lastore, 1)) {off : Int} (d12 : decode cL 10 = .ok (.goto off, 3)) (hoff : ((10 : Nat) : Int) + off = (pE : Int)) (d13 : decode cL pE = .ok (.iconst 0, 1)) (d14 : decode cL (pE + 1) = .ok (.ireturn, 1)) :
    WRi l yL (.codeWith yL cL 5 (some .int) hh :: TB) rmL [.ref b, .int x, .int y, .ref oa] D classes (wO oa ko f ++ w) (wO oa ko (vp_updL f 0 r.toInt64) ++ w') ([(ko, .long)] ++ tys) 0 := by
  refine wrW_of (by rw [hy]; decide +kernel) (Nat.le_of_ble_eq_true rfl) ?_
  intro p e s m args below meth c Q ls A hx hb hml htb hown hP hK hD hS hA hl hret
  have hl : lv_has ls 5 [(0, .ref b), (1, .int x), (2, .int y), (3, .ref oa)] := hl
  rw [hy] at hown
  have hP0 := va_P_l hP
  have hP1 := va_P_r hP
  have hK1 := va_K_r hK
  refine lv_aload_n hx hb d0 rfl (lv_at hl 3 rfl) ?_
  refine lv_iconst (v := 0) hx hb d2 (by decide) ?_
  refine lv_aload_n hx hb d3 rfl (lv_at hl 0 rfl) ?_
  refine lv_iload_n hx hb d4 rfl (lv_at hl 1 rfl) ?_
  refine lv_iload_n hx hb d5 rfl (lv_at hl 2 rfl) ?_
  refine wrVF (As := [.int x, .int y]) (rest := [.int 0, .ref oa]) (b := b) ⟨hx, hb, hml, hown, htb⟩ hM (hcw s args htb) hP1 hP0 hD hfst hK1 hS hA (va_recv hK1 hP1 (ci := 0) (q0 := 0) rfl hw0) rfl hl.1 rfl (lv_room (Nat.le_of_ble_eq_true rfl)) d7 ⟨Nat.zero_le _, Nat.zero_le _⟩ (fun H locs hP1 hP0 hD hS => ?_)
  refine lv_i2l (v := r.toInt64) hx hb d10 rfl ?_
  refine q_last hx hb hK (hP0.app hP1) hD hS 0 0 rfl rfl 0 (x := r.toInt64) (by decide) (by decide) d11 (fun H locs hP hD hS => ?_)
  refine lv_goto (tgt := pE) hx hb d12 hoff ?_
  refine lv_iconst (v := 0) hx hb d13 (by decide) ?_
  exact hret _ _ _ _ _ rfl hP hS d14
abbrev FGh (strs : List (Nat × String)) (E : String) (hh : List (Nat × Nat × Nat × Nat)) (pc ph : Nat) : Prop := ∀ (e : Env) (s : State) (m : MethodId) (args : Array Value) (ls : Array Slot) (rest : List Value) (q : Addr) (ce : Cell) (N : Nat) (H : Heap), (∀ w ∈ TB, w.before args s = true) → XG strs N s H → s.vm.findClass R_L = some m.cls → ce.vm = .none → s.vm.findClass E = some ce.cls → e.platform.magicAccessors = ({} : Platform).magicAccessors → FG e s (F0 m pc ls rest) q ce (tableOf hh) ph
theorem wrapT3 (hM : TH l yM (.code yM bM mM (some .int) :: TB) rmM [.ref b, .int x, .int y, .int q] D classes w tys strs E) (hw0 : w[0]? = some (b, .inr (0, fs))) (hy : yL.cls = R_L)
    (hcw : ∀ (s : State) (args : Array Value), (∀ w ∈ TB, w.before args s = true) → CallW rmL s args R_L R_M index yM bM mM (some .int) (.code yM bM mM (some .int) :: TB) rmM 1 6 3) (hrm : 1 ≤ rmL.cells ∧ 6 ≤ rmL.slots) (hFG : FGh strs E hh 7 ph)
    (d0 : decode cL 0 = .ok (.aload 4, 2)) (d2 : decode cL 2 = .ok (.iconst 0, 1)) (d3 : decode cL 3 = .ok (.aload_n 0, 1)) (d4 : decode cL 4 = .ok (.iload_n 1, 1)) (d5 : decode cL 5 = .ok (.iload_n 2, 1)) (d6 : decode cL 6 = .ok (.iload_n 3, 1)) (d7 : decode cL 7 = .ok (.invokevirtual index, 3)) (d8 : decode cL ph = .ok (.astore 5, 2)) {ck : Int} (d9 : decode cL (ph + 2) = .ok (.iconst ck, 1)) (hck : Int32.ofInt ck = k) (d10 : decode cL (ph + 3) = .ok (.ireturn, 1)) :
    WT l yL (.codeWith yL cL 6 (some .int) hh :: TB) rmL [.ref b, .int x, .int y, .int q, .ref oa] D classes w tys strs k := by
  refine wt_of (by rw [hy]; decide +kernel) (Nat.le_of_ble_eq_true rfl) ?_
  intro p e s m args below meth c Q ls N hx hb hml htb hown hP1 hK1 hX htab hl hret
  have hl : lv_has ls 6 [(0, .ref b), (1, .int x), (2, .int y), (3, .int q), (4, .ref oa)] := hl
  rw [hy] at hown
  refine lv_aload hx hb d0 (lv_at hl 4 rfl) ?_
  refine lv_iconst (v := 0) hx hb d2 (by decide) ?_
  refine lv_aload_n hx hb d3 rfl (lv_at hl 0 rfl) ?_
  refine lv_iload_n hx hb d4 rfl (lv_at hl 1 rfl) ?_
  refine lv_iload_n hx hb d5 rfl (lv_at hl 2 rfl) ?_
  refine lv_iload_n hx hb d6 rfl (lv_at hl 3 rfl) ?_
  refine thV (As := [.int x, .int y, .int q]) (rest := [.int 0, .ref oa]) (b := b) ⟨hx, hb, hml, hown, htb⟩ hM (hcw s args htb) hP1 hK1 hX.1 (va_recv hK1 hP1 (ci := 0) (q0 := 0) rfl hw0) rfl hl.1 rfl (lv_room (Nat.le_of_ble_eq_true rfl)) d7 ⟨by omega, by omega⟩ (ph := ph) (fun q ce h1 h2 h3 => by rw [htab]; exact hFG e s m args _ _ q ce N s.heap htb hX hown h1 h2 h3) (fun qa H hz hk => ?_)
  refine lv_astore (lv' := [(5, .ref qa), (0, .ref b), (1, .int x), (2, .int y), (3, .int q), (4, .ref oa)]) hx hb d8 hl (by decide) rfl (fun ls hl => ?_)
  refine lv_iconst (v := k) hx hb d9 hck ?_
  exact hret _ _ _ _ rfl hz hk d10
theorem wrapT2 (hM : TH l yM (.code yM bM mM (some .int) :: TB) rmM [.ref b, .int x, .int y] D classes w tys strs E) (hw0 : w[0]? = some (b, .inr (0, fs))) (hy : yL.cls = R_L)
    (hcw : ∀ (s : State) (args : Array Value), (∀ w ∈ TB, w.before args s = true) → CallW rmL s args R_L R_M index yM bM mM (some .int) (.code yM bM mM (some .int) :: TB) rmM 1 6 2) (hrm : 1 ≤ rmL.cells ∧ 6 ≤ rmL.slots) (hFG : FGh strs E hh 5 ph)
    (d0 : decode cL 0 = .ok (.aload_n 3, 1)) (d2 : decode cL 1 = .ok (.iconst 0, 1)) (d3 : decode cL 2 = .ok (.aload_n 0, 1)) (d4 : decode cL 3 = .ok (.iload_n 1, 1)) (d5 : decode cL 4 = .ok (.iload_n 2, 1)) (d7 : decode cL 5 = .ok (.invokevirtual index, 3)) (d8 : decode cL ph = .ok (.astore 4, 2)) {ck : Int} (d9 : decode cL (ph + 2) = .ok (.iconst ck, 1)) (hck : Int32.ofInt ck = k) (d10 : decode cL (ph + 3) = .ok (.ireturn, 1)) :
    WT l yL (.codeWith yL cL 5 (some .int) hh :: TB) rmL [.ref b, .int x, .int y, .ref oa] D classes w tys strs k := by
  refine wt_of (by rw [hy]; decide +kernel) (Nat.le_of_ble_eq_true rfl) ?_
  intro p e s m args below meth c Q ls N hx hb hml htb hown hP1 hK1 hX htab hl hret
  have hl : lv_has ls 5 [(0, .ref b), (1, .int x), (2, .int y), (3, .ref oa)] := hl
  rw [hy] at hown
  refine lv_aload_n hx hb d0 rfl (lv_at hl 3 rfl) ?_
  refine lv_iconst (v := 0) hx hb d2 (by decide) ?_
  refine lv_aload_n hx hb d3 rfl (lv_at hl 0 rfl) ?_
  refine lv_iload_n hx hb d4 rfl (lv_at hl 1 rfl) ?_
  refine lv_iload_n hx hb d5 rfl (lv_at hl 2 rfl) ?_
  refine thV (As := [.int x, .int y]) (rest := [.int 0, .ref oa]) (b := b) ⟨hx, hb, hml, hown, htb⟩ hM (hcw s args htb) hP1 hK1 hX.1 (va_recv hK1 hP1 (ci := 0) (q0 := 0) rfl hw0) rfl hl.1 rfl (lv_room (Nat.le_of_ble_eq_true rfl)) d7 ⟨by omega, by omega⟩ (ph := ph) (fun q ce h1 h2 h3 => by rw [htab]; exact hFG e s m args _ _ q ce N s.heap htb hX hown h1 h2 h3) (fun qa H hz hk => ?_)
  refine lv_astore (lv' := [(4, .ref qa), (0, .ref b), (1, .int x), (2, .int y), (3, .ref oa)]) hx hb d8 hl (by decide) rfl (fun ls hl => ?_)
  refine lv_iconst (v := k) hx hb d9 hck ?_
  exact hret _ _ _ _ rfl hz hk d10
end TWB
