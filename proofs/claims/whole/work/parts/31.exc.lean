/-! Exceptions: what a throw needs of the start, and how a method that throws leaves -/
def xZ (C n d : String) (N : Nat) (U : State) (H : Heap) : Prop := ∃ (c : ClassId) (k : Class) (i : Nat) (f : Field) (a : Nat) (cell : Cell) (v : Value), U.vm.findClass C = some c ∧ U.fieldFound? C n d = some (c, k, i, f) ∧ f.isStatic = true ∧ k.statics = some a ∧ H[a]? = some cell ∧ cell.vm.isStatics = true ∧ cell.cls = c ∧ f.slot < cell.slots.size ∧ k.staticTypes[f.slot]? = some f.type ∧ cell.slots[f.slot]? = some v ∧ v.isRef = true ∧ a < N
theorem xZ.moved {C n d : String} {N : Nat} {u U : State} {H : Heap} (hvm : u.vm.Alike U.vm) (h : xZ C n d N u H) : xZ C n d N U H := by
  obtain ⟨c, k, i, f, a, cell, v, h1, h2, h3, h4, h5, h6, h7, h8, h9, h10⟩ := h
  obtain ⟨k', hi', he⟩ := State.fieldFound?_setVm hvm h2
  exact ⟨c, k', i, f, a, cell, v, by rw [hvm.findClass]; exact h1, hi', h3, by rw [he]; exact h4, h5, h6, h7, h8, by rw [he]; exact h9, h10⟩
theorem xZ.kept {C n d : String} {N : Nat} {U : State} {H H1 : Heap} (hq : ∀ a : Nat, a < N → H1[a]? = H[a]?) (h : xZ C n d N U H) : xZ C n d N U H1 := by
  obtain ⟨c, k, i, f, a, cell, v, h1, h2, h3, h4, h5, h6, h7, h8, h9, h10, h11, h12⟩ := h
  exact ⟨c, k, i, f, a, cell, v, h1, h2, h3, h4, by rw [hq a h12]; exact h5, h6, h7, h8, h9, h10, h11, h12⟩
theorem xZ.lays {C n d : String} {N : Nat} {s : State} (h : xZ C n d N s s.heap) (args : Array Value) : (Cond.laysStatic C n d).before args s = true := by
  obtain ⟨c, k, i, f, a, cell, v, h1, h2, h3, h4, h5, h6, h7, h8, h9, h10, h11, h12⟩ := h
  exact Cond.laysStatic_of h1 h2 h3 h4 h5 h6 h7 h8 h9
theorem xZ.isRef {C n d : String} {N : Nat} {s : State} (h : xZ C n d N s s.heap) (args : Array Value) : (Cond.isRef (.static C n d)).before args s = true := by
  obtain ⟨c, k, i, f, a, cell, v, h1, h2, h3, h4, h5, h6, h7, h8, h9, h10, h11, h12⟩ := h
  have hev : (Term.static C n d).eval args s none [] s = some v := by
    simp [Term.eval, State.fieldNamed?, h2, h3, h4, h5, h6, h10]
  cases v with
  | ref r => simp [Cond.before, Cond.holds, Cond.value, hev]
  | null => simp [Cond.before, Cond.holds, Cond.value, hev]
  | int r => cases h11
  | long r => cases h11
  | float r => cases h11
  | double r => cases h11
  | _ => cases h11
theorem xZ.of {C n d : String} {args : Array Value} {s : State} (hl : (Cond.laysStatic C n d).before args s = true) (hr : (Cond.isRef (.static C n d)).before args s = true) : xZ C n d s.heap.size s s.heap := by
  obtain ⟨c, k, i, f, a, cell, hc, hi, hst, ha, hcell, hs, hcls, hlt, hty⟩ := Cond.laysStatic_spec hl
  obtain ⟨v, hv, hvr⟩ := Cond.isRef_spec hr
  obtain ⟨-, a', cell', ha', hcell', -, hslot⟩ := Term.static_spec hi hv
  cases ha.symm.trans ha'
  cases hcell.symm.trans hcell'
  exact ⟨c, k, i, f, a, cell, v, hc, hi, hst, ha, hcell, hs, hcls, hlt, hty, hslot, hvr, (Array.getElem?_eq_some_iff.mp hcell).1⟩
def isCD : Cond → Bool
  | .castable .. => true
  | .declares .. => true
  | _ => false
def xV : List Cond := lw_tbl.filter isCD
theorem cd_moved {s U : State} {w : Cond} (hc : isCD w = true) (hvm : s.vm.Alike U.vm) (h : ∀ a : Array Value, w.before a s = true) : ∀ a : Array Value, w.before a U = true := by
  intro a
  cases w with
  | castable x y => exact (show (Cond.castable x y).before a (s.setVm U.vm) = true by rw [Cond.castable_setVm hvm]; exact h a)
  | declares x => exact (show (Cond.declares x).before a (s.setVm U.vm) = true by rw [Cond.declares_setVm hvm]; exact h a)
  | _ => cases hc
def XF (strs : List (Nat × String)) (N : Nat) (U : State) (H : Heap) : Prop :=
  xZ Bundle.tN "UNASSIGNED_STACK" Bundle.steD N U H ∧ xZ Bundle.tN "SUPPRESSED_SENTINEL" Bundle.listD N U H ∧ (∀ w ∈ xV, ∀ a : Array Value, w.before a U = true) ∧ ∀ q ∈ strs, ∃ sa : Nat, vk_R R_M q.1 q.2 sa U
theorem XF.warm {strs : List (Nat × String)} {N : Nat} {s U : State} {H : Heap} (hW : s.WarmedH U.vm) (h : XF strs N s H) : XF strs N U H :=
  ⟨h.1.moved hW.alike, h.2.1.moved hW.alike, fun w hw => cd_moved (List.mem_filter.mp hw).2 hW.alike (h.2.2.1 w hw), fun q hq => (h.2.2.2 q hq).elim fun sa hs => ⟨sa, hs.warm hW⟩⟩
theorem XF.kept {strs : List (Nat × String)} {N : Nat} {U : State} {H H1 : Heap} (hq : ∀ a : Nat, a < N → H1[a]? = H[a]?) (h : XF strs N U H) : XF strs N U H1 :=
  ⟨h.1.kept hq, h.2.1.kept hq, h.2.2⟩
def x4 : List Cond := [.isRef (.static Bundle.tN "UNASSIGNED_STACK" Bundle.steD), .isRef (.static Bundle.tN "SUPPRESSED_SENTINEL" Bundle.listD), .laysStatic Bundle.tN "UNASSIGNED_STACK" Bundle.steD, .laysStatic Bundle.tN "SUPPRESSED_SENTINEL" Bundle.listD]
theorem XF.atoms {strs : List (Nat × String)} {N : Nat} {s : State} {args : Array Value} (h : XF strs N s s.heap) (htb : ∀ w ∈ TB, w.before args s = true) {L : List Cond} (hL : ∀ w ∈ L, w ∈ TB ∨ w ∈ xV ∨ w ∈ x4) : ∀ w ∈ L, w.before args s = true := by
  intro w hw
  rcases hL w hw with h1 | h1 | h1
  · exact htb w h1
  · exact h.2.2.1 w h1 args
  · simp only [x4, List.mem_cons, List.not_mem_nil, or_false] at h1
    rcases h1 with rfl | rfl | rfl | rfl
    · exact h.1.isRef args
    · exact h.2.1.isRef args
    · exact h.1.lays args
    · exact h.2.1.lays args
/-- the end of a method that throws an E and has written nothing -/
def QT (E : String) : Array Value → State → Outcome → State → Prop := fun _ st o t => ∃ (q : Addr) (ce : Cell), o = .threw q ∧ t.heap[q]? = some ce ∧ ce.vm = .none ∧ st.vm.findClass E = some ce.cls ∧ st.WarmedH t.vm ∧ st.sameButNew ({ t with vm := st.vm } : State) [] 1 6
def TH (l : Launch) (y : MethodName) (ws : List Cond) (rm : Room) (av : List Value) (D : va_G) (cl : List vw_C) (w : va_W) (tys : List (ClassId × FieldType)) (strs : List (Nat × String)) (E : String) : Prop :=
  ∀ N : Nat, MetFree l y (headSpec ws rm) (va_Pc av (fun U => va_P D cl w U.heap ∧ va_K D cl tys U ∧ XF strs N U U.heap)) (fun _ _ _ _ _ => True) (QT E)
section TE
variable {l : Launch} {y : MethodName} {rm : Room} {av : List Value} {D : va_G} {cl : List vw_C} {w : va_W} {tys : List (ClassId × FieldType)} {cc : ByteArray} {maxL : Nat} {ret : Option FieldType} {strs : List (Nat × String)} {E : String}
theorem th_of (hy : plainName y.cls = true) (hent : (lg_sl av).length ≤ maxL)
    (body : ∀ (p : Program) (e : Env) (s : State) (m : MethodId) (args : Array Value) (below : List Frame) (meth : Method) (c : Code) (Q : State → Prop) (ls : Array Slot) (N : Nat),
      p.tables.exec = Jvm.exec → c.code = cc → c.maxLocals = maxL → (∀ w ∈ TB, w.before args s = true) → s.vm.findClass y.cls = some m.cls → va_P D cl w s.heap → va_K D cl tys s → XF strs N s s.heap → (∀ x ∈ c.exceptionTable.toList, False) → meth.locks = false → lv_has ls maxL (lv_args 0 av) →
      (∀ (U : State) (q : Addr) (ce : Cell), U.status = .running → Ended U below (.threw q) → U.heap[q]? = some ce → ce.vm = .none → s.vm.findClass E = some ce.cls → s.WarmedH U.vm → s.sameButNew ({ U with vm := s.vm } : State) [] 1 6 → Q U) →
      W p l e rm s m args below meth c s.heap [] 0 0 Q (F0 m 0 ls [])) :
    TH l y (.code y cc maxL ret :: TB) rm av D cl w tys strs E := by
  intro N
  refine MetFree.of_bodyS (code := cc) (maxLocals := maxL) (ret := ret) hy ?_ ?_
  · intro args s m h hn
    obtain ⟨meth, c, h1, h2, h3, h4, h5, h6, -, -⟩ := Cond.code_spec hn (atoms_spec (ws := .code y cc maxL ret :: TB) h _ List.mem_cons_self)
    exact ⟨meth, c, h1, h2, h3, h4, h5, h6⟩
  · intro p e s m args below meth c s₁ B hml hv _
    obtain ⟨rfl, hP, hK, hX⟩ := hv
    have hh0 : s₁.heap = s.heap := by rw [B.state]; rfl
    have hnoh : ∀ x ∈ c.exceptionTable.toList, False := by
      obtain ⟨meth9, c9, h1, h2, -, -, -, -, h7, -⟩ := Cond.code_spec B.named (atoms_spec (ws := .code y cc maxL ret :: TB) B.pre _ List.mem_cons_self)
      cases Option.some.inj (h1.symm.trans B.method)
      cases Option.some.inj (h2.symm.trans (Stand.of_body B).code)
      intro x hx
      rw [Array.isEmpty_iff.mp h7] at hx
      cases hx
    have hl := lv_entry av hent
    have K := body p e s m _ below meth c (fun t => ∃ o, t.status = .running ∧ Ended t below o ∧ QT E av.toArray s o t) _ N B.exec B.bytes hml (fun w hw => atoms_spec (ws := .code y cc maxL ret :: TB) B.pre w (List.mem_cons_of_mem _ hw)) (findClass_of_methodNamed B.named) hP hK hX hnoh B.notSynchronized hl
      (fun U q ce a1 a2 a3 a4 a5 a6 a7 => ⟨.threw q, a1, a2, q, ce, rfl, a3, a4, a5, a6, a7⟩)
    obtain ⟨t, a1, o, b1, b2, b3⟩ := K s₁ hh0 (Stand.of_body B)
    rw [lg_entry_eq]
    exact ⟨t, o, a1, b1, b2, b3⟩
end TE
section TR
variable {p : Program} {l : Launch} {e : Env} {R : Room} {s : State} {m : MethodId} {args : Array Value} {below : List Frame} {meth : Method} {c : Code} {Q : State → Prop} {cc : ByteArray} {pc : Nat} {ls : Array Slot}
/-- throw new E("text") where nothing was written yet -/
theorem th_row (hexec : p.tables.exec = Jvm.exec) (hb : c.code = cc) (hl : l.stackTraces = false) {own cls text : String} {names : List String} {ik is ic : Nat} (hown : s.vm.findClass own = some m.cls) (hcls : Bundle.fit cls = true) (hnames : ∀ n ∈ names, Bundle.fit n = true)
    (hk : (Cond.classLink own ik cls).before args s = true) (hini : (Cond.initialized cls).before args s = true) (hat : ∀ w ∈ Bundle.ownAtoms own ic cls names, w.before args s = true) (hstr : ∃ sa : Nat, vk_R own is text sa s) (hsize : ls.size = c.maxLocals)
    (d0 : decode cc pc = .ok (.new ik, 3)) (d3 : decode cc (pc + 3) = .ok (.dup, 1)) (d4 : decode cc (pc + 4) = .ok (.ldc is, 2)) (d6 : decode cc (pc + 6) = .ok (.invokespecial ic, 3)) (d9 : decode cc (pc + 9) = .ok (.athrow, 1))
    (hout : ∀ x ∈ c.exceptionTable.toList, False) (hRf : names.length + 3 < R.frames) (hRl : 13 * (names.length + 1) + 43 ≤ R.locals) (hRc : 1 ≤ R.cells) (hRs : 6 ≤ R.slots) (hlocks : meth.locks = false)
    (hq : ∀ (U : State) (q : Addr) (ce : Cell), U.status = .running → Ended U below (.threw q) → U.heap[q]? = some ce → ce.vm = .none → s.vm.findClass cls = some ce.cls → s.WarmedH U.vm → s.sameButNew ({ U with vm := s.vm } : State) [] 1 6 → Q U) :
    W p l e R s m args below meth c s.heap [] 0 0 Q (F0 m pc ls []) := by
  intro T hT X
  have htr : e.platform.stackTraces = false := (show e.platform.stackTraces = l.stackTraces by rw [X.admits.platform]).trans hl
  have hins : (Cond.instantiable cls 6).before args s = true := hat _ (by simp [Bundle.ownAtoms])
  obtain ⟨sa, hs1, hs2⟩ := hstr
  obtain ⟨vm₁, cX, kX, hfX, hkX, -, -, X₁, st1⟩ := X.newCold hexec (own := own) (C := cls) (index := ik) (n := 6) hown hk hins hini (g := F0 m pc ls []) rfl (by rw [hb]; exact d0) (by omega) (by omega)
  generalize hT1 : (T.setVm vm₁).pushCell { cls := cX, slots := kX.instanceTypes.map defaultValue, vm := .none } = T1 at X₁ st1
  have hcellA : T1.heap[T.heap.size]? = some (freshCell cX kX) := by rw [← hT1]; exact State.heap_pushCell_size _ _
  have d3' : decode c.code (pc + 3) = .ok (.dup, 1) := by rw [hb]; exact d3
  have d4' : decode c.code (pc + 4) = .ok (.ldc is, 2) := by rw [hb]; exact d4
  obtain ⟨U, hsteps, hrun, hend, hW, hsame, ce, hce, hO⟩ := X₁.ctorThrowS hexec htr (own := own) (cls := cls) (names := names) (ic := ic) hown hcls hnames hat (fun x hx => nomatch hx) hfX hkX hcellA (by rw [hT]; exact Nat.le_refl _) (msg := .ref sa) rfl
    (g := { method := m, pc := pc + 6, locals := ls, stack := [.ref sa, .ref T.heap.size, .ref T.heap.size], locked := none }) rfl hsize rfl rfl (rest := []) rfl
    (by rw [hb]; exact d6) (by rw [hb]; exact d9) (fun x hx => (hout x hx).elim) hRf (by simp only [List.map_cons, List.map_nil, List.sum_cons, List.sum_nil, Value.category]; show 2 * 0 + _ + _ ≤ _; omega) hlocks
  refine ⟨U, ?_, hq U _ ce hrun hend hce hO.vm hO.cls hW (by simpa using hsame)⟩
  refine st1 _ ?_
  show Steps p.tables e below (T1.setTop { method := m, pc := pc + 3, locals := ls, stack := [.ref T.heap.size], locked := none }) _
  jvm_step X₁.here [X₁.here.top, hexec, d3', Value.category]
  exact X₁.ldcString hexec (own := own) (text := text) (index := is) (a := sa) hown hs1 hs2
    (g := { method := m, pc := pc + 4, locals := ls, stack := [.ref T.heap.size, .ref T.heap.size], locked := none }) rfl d4' _ hsteps
end TR
