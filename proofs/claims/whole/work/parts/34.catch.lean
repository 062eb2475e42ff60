/-! A callee's throw, caught by a row of the caller's own table -/
section FG
variable {e : Env} {s₀ : State} {f : JFrame} {a : Addr} {cell : Cell} {own E : String} {args : Array Value} {ph : Nat}
/-- the search through the rows comes to the handler ph, whatever warm tables it begins with -/
def FG (e : Env) (s₀ : State) (f : JFrame) (a : Addr) (cell : Cell) (tab : List ExceptionTableEntry) (ph : Nat) : Prop :=
  ∀ S : State, s₀.WarmedH S.vm → S.heap[a]? = some cell → ∃ vm', s₀.WarmedH vm' ∧ ∀ (Q : Handler → Pre) (E : CtlPost) (d : Bool) (acts : List Action), wp (findHandler.go f a tab) Q E e d acts S ↔ Q (.found ph) d acts (S.setVm vm')
theorem fg_hit (hpl : e.platform.magicAccessors = ({} : Platform).magicAccessors) (hown : s₀.vm.findClass own = some f.method.cls) (hv : cell.vm = .none) (hE : s₀.vm.findClass E = some cell.cls) {x : ExceptionTableEntry} {t : List ExceptionTableEntry} {nm : String}
    (hx : covers x f.pc = true) (h0 : x.catchType ≠ 0) (hl : (Cond.classLink own x.catchType nm).before args s₀ = true) (hc : (Cond.castable E nm).before args s₀ = true) : FG e s₀ f a cell (x :: t) x.handlerPc := by
  intro S hW hcell
  obtain ⟨c', hc', hcl⟩ := Cond.classLink_spec hown hl e.platform hpl
  obtain ⟨c3, t3, w1, w2, w3⟩ := Cond.castable_spec hc
  cases hE.symm.trans w1
  cases hc'.symm.trans w2
  obtain ⟨dk, _, _, kt, hd, _, _, _, _, hkt, _, hopen⟩ := hcl.here
  have hcl₀ := hW.classLinks hcl
  have hW' : s₀.WarmedH (S.vm.noted f.method.cls x.catchType (.cls c')) := hW.noted hd hopen (State.rightAt_cls hcl)
  obtain ⟨ke, hke, -⟩ := Vm.findClass_spec hE
  obtain ⟨k1', hk1', -⟩ := hW'.alike.2.2 _ _ hke
  obtain ⟨k2', hk2', -⟩ := hW'.alike.2.2 _ _ hkt
  obtain ⟨ha, ht⟩ := (resolveClass_links e.toSetting hcl₀).op (op := VmOp.resolveClass f.method.cls x.catchType) rfl
  have hfit' : (S.vm.noted f.method.cls x.catchType (.cls c')).assignable cell.cls c' = true := by rw [hW'.alike.assignable]; exact w3
  have hobj : ∀ k, cell.vm ≠ .statics k := fun k h => by rw [hv] at h; cases h
  simp only [covers] at hx
  refine ⟨_, hW', fun Q E d acts => ?_⟩
  simp [findHandler.go, hx, h0, ha, ht, hcell, hobj, hk1', hk2', hfit', VmOp.dirties, VmOp.acts]
theorem fg_pass (hpl : e.platform.magicAccessors = ({} : Platform).magicAccessors) (hown : s₀.vm.findClass own = some f.method.cls) (hv : cell.vm = .none) (hE : s₀.vm.findClass E = some cell.cls) {x : ExceptionTableEntry} {t : List ExceptionTableEntry} {nm : String}
    (hx : covers x f.pc = true) (h0 : x.catchType ≠ 0) (hl : (Cond.classLink own x.catchType nm).before args s₀ = true) (hc : va_Nc E nm s₀) (hrest : FG e s₀ f a cell t ph) : FG e s₀ f a cell (x :: t) ph := by
  intro S hW hcell
  obtain ⟨c', hc', hcl⟩ := Cond.classLink_spec hown hl e.platform hpl
  obtain ⟨c3, t3, w1, w2, w3⟩ := hc
  cases hE.symm.trans w1
  cases hc'.symm.trans w2
  obtain ⟨dk, _, _, kt, hd, _, _, _, _, hkt, _, hopen⟩ := hcl.here
  have hcl₀ := hW.classLinks hcl
  have hW' : s₀.WarmedH (S.vm.noted f.method.cls x.catchType (.cls c')) := hW.noted hd hopen (State.rightAt_cls hcl)
  obtain ⟨ke, hke, -⟩ := Vm.findClass_spec hE
  obtain ⟨k1', hk1', -⟩ := hW'.alike.2.2 _ _ hke
  obtain ⟨k2', hk2', -⟩ := hW'.alike.2.2 _ _ hkt
  obtain ⟨ha, ht⟩ := (resolveClass_links e.toSetting hcl₀).op (op := VmOp.resolveClass f.method.cls x.catchType) rfl
  have hfit' : (S.vm.noted f.method.cls x.catchType (.cls c')).assignable cell.cls c' = false := by rw [hW'.alike.assignable]; exact w3
  have hobj : ∀ k, cell.vm ≠ .statics k := fun k h => by rw [hv] at h; cases h
  simp only [covers] at hx
  obtain ⟨vm', hW2, hq⟩ := hrest (S.setVm (S.vm.noted f.method.cls x.catchType (.cls c'))) hW' hcell
  refine ⟨vm', hW2, fun Q E d acts => Iff.trans ?_ (hq Q E d acts)⟩
  simp [findHandler.go, hx, h0, ha, ht, hcell, hobj, hk1', hk2', hfit', VmOp.dirties, VmOp.acts]
theorem fg_step {S : State} {r : List Frame} {vm' : Vm} (hfind : ∀ (Q : Handler → Pre) (E : CtlPost) (d : Bool) (acts : List Action), wp (findHandler f a) Q E e d acts S ↔ Q (.found ph) d acts (S.setVm vm')) :
    (stepThrowing e S a (.java f :: r)).Is ((S.setVm vm').setFrames (.java { f with pc := ph, stack := [.ref a] } :: r)) [] := by
  simp only [stepThrowing, searchFrame, vmDo]
  generalize hr : Sem.go _ e false [] S = res
  obtain ⟨as, rfl, ha⟩ := Sem.eq_ok_of hr (a := Handler.found ph) (s' := S.setVm vm') (acts' := []) (by simp [hfind _ _ _ _])
  exact ⟨rfl, ha⟩
end FG
section FC
variable {p : Program} {l : Launch} {e : Env} {R : Room} {s : State} {m : MethodId} {args : Array Value} {below : List Frame} {meth : Method} {c : Code} {T : State} {locs : List Loc} {cells slots : Nat}
theorem fg_caught (X : Stand p l e R s m args below meth c T locs cells slots) {a : Addr} {g : JFrame} (hg : g.method = m) {cell : Cell} (hcell : T.heap[a]? = some cell) {ph : Nat} (hF : FG e s g a cell c.exceptionTable.toList ph) :
    ∃ vm', Stand p l e R s m args below meth c (T.setVm vm') locs cells slots ∧ ∀ target, Steps p.tables e below ((T.setVm vm').setTop { g with pc := ph, stack := [.ref a] }) target → Steps p.tables e below ((T.setTop g).pushFrame (.throwing a)) target := by
  subst hg
  obtain ⟨vm', hW', hq⟩ := hF ((T.setTop g).pushFrame (.throwing a)) X.warmed hcell
  have hfind : ∀ (Q : Handler → Pre) (E : CtlPost) (d : Bool) (acts : List Action), wp (findHandler g a) Q E e d acts ((T.setTop g).pushFrame (.throwing a)) ↔ Q (.found ph) d acts (((T.setTop g).pushFrame (.throwing a)).setVm vm') :=
    fun Q E d acts => (W.findHandler_eq (s := (T.setTop g).pushFrame (.throwing a)) (meth := meth) (code := c) (show ((T.setTop g).pushFrame (.throwing a)).vm.method? g.method = some meth from X.method') X.code).trans (hq Q E d acts)
  refine ⟨vm', X.noted hW', fun target hrest => ?_⟩
  have h : At T g.method c below := X.here
  obtain ⟨hgo, hw⟩ := h.throwing a
  refine Steps.head hgo hw ?_
  rw [stepThread_throwing (frames_entered h.top _), (fg_step (S := (T.setTop g).pushFrame (.throwing a)) hfind).1]
  obtain ⟨g₀, hg⟩ := Option.isSome_iff_exists.mp h.top
  obtain ⟨r, hr⟩ := State.topJava?_eq_some.mp hg
  have hr' : (T.setVm vm').frames = .java g₀ :: r := hr
  have hsw : ∀ (u : State) (F G : List Frame), ((u.setFrames F).setVm vm').setFrames G = (u.setVm vm').setFrames G := fun u F G => by
    have h1 : (u.setFrames F).setVm vm' = (u.setVm vm').setFrames F := rfl
    rw [h1, State.setFrames_setFrames]
  rw [State.setTop_of_frames _ hr'] at hrest
  rw [hr, List.tail_cons, State.pushFrame, hsw, State.setTop_of_frames _ hr, hsw]
  exact hrest
end FC
section TV
variable {p : Program} {l : Launch} {e : Env} {R : Room} {s : State} {m : MethodId} {args : Array Value} {below : List Frame} {meth : Method} {c : Code} {H : Heap} {locs : List Loc} {cells slots : Nat} {Q : State → Prop}
variable {y : MethodName} {rm : Room} {As rest st0 : List Value} {D : va_G} {cl : List vw_C} {w : va_W} {tys : List (ClassId × FieldType)} {cc bytes : ByteArray} {maxL nL n index b pc N : Nat} {ret : Option FieldType} {own C E : String} {ls : Array Slot} {strs : List (Nat × String)}
/-- a virtual call whose callee throws an E, caught at ph -/
theorem thV (S : CallFix p m c cc nL s args TB own) (hM : TH l y (.code y bytes maxL ret :: TB) rm (.ref b :: As) D cl w tys strs E) (cw : CallW R s args own C index y bytes maxL ret (.code y bytes maxL ret :: TB) rm 1 6 n) (hP : va_P D cl w H) (hK : va_K D cl tys s) (hX : XF strs N s H)
    (hrv : ∃ cell : Cell, H[b]? = some cell ∧ cell.vm.isStatics = false ∧ s.vm.findClass C = some cell.cls) (hn : As.length = n) (hls : ls.size = nL) (hst : st0 = As.reverse ++ .ref b :: rest) (hroom : 2 * (F0 m pc ls st0).monitorRoom + (rest.map fun v => v.category).sum ≤ 8) (hdg : decode cc pc = .ok (.invokevirtual index, 3)) (hf : cells + 1 ≤ R.cells ∧ slots + 6 ≤ R.slots)
    {ph : Nat} (hFG : ∀ (q : Addr) (ce : Cell), ce.vm = .none → s.vm.findClass E = some ce.cls → e.platform.magicAccessors = ({} : Platform).magicAccessors → FG e s (F0 m pc ls rest) q ce c.exceptionTable.toList ph)
    (kk : ∀ (q : Addr) (H1 : Heap), H.size ≤ H1.size → (∀ k : Nat, k < H.size → H1[k]? = H[k]?) → W p l e R s m args below meth c H1 locs (cells + 1) (slots + 6) Q (F0 m ph ls [.ref q])) : W p l e R s m args below meth c H locs cells slots Q (F0 m pc ls st0) := by
  obtain ⟨⟨hrc, hrs, hfr, hlo, hws, hcw, hcode, hini, hy, hlen, hl⟩, hinst, hsel⟩ := cw
  obtain ⟨hexec, hb, hml, hown, -⟩ := S
  obtain ⟨cellB, hcB, hoB, hclB⟩ := hrv
  intro T hT X
  obtain ⟨mk, methM, hnamed, hmethM, hstM, habM⟩ := Cond.instanceMethod_spec hinst
  obtain ⟨methM', cM, hmethM', -, -, -, -, -, -, hsigM⟩ := Cond.code_spec hnamed hcode
  cases hmethM.symm.trans hmethM'
  obtain ⟨c2, r2, m2, q1, q2, q3, q4, kP, hkP, hkPi⟩ := Cond.selects_spec hsel
  cases hclB.symm.trans q1
  cases (State.methodFound?_of_named hnamed hy).symm.trans q2
  cases hnamed.symm.trans q3
  have hselP : selectMethod e.platform s.vm cellB.cls mk = .method mk := by rw [Launch.admits_selectMethod X.admits]; exact q4
  have hdg' : decode c.code (F0 m pc ls st0).pc = .ok (.invokevirtual index, 3) := by rw [hb]; exact hdg
  obtain ⟨vm₁, X₁, hstep₁⟩ := X.invokevirtual hexec hown hl hnamed hmethM hstM hkP hkPi hy (a := b) (cell := cellB) (by rw [hT]; exact hcB)
    (fun z h => by rw [h] at hoB; cases hoB) hselP hmethM habM hkP hkPi (g := F0 m pc ls st0) rfl (argsL := As) (rest := rest) (hn.trans (hlen _ hsigM)) hst hdg'
  have hW₁ : s.WarmedH vm₁ := X₁.warmed
  have hn₁ := X₁.named hnamed
  obtain ⟨methY, cY, hmY, hcY, -, hlY, -, -, -, -⟩ := Cond.code_spec hn₁ (hws _ hcw (Value.ref b :: As).toArray (T.setVm vm₁) hW₁)
  obtain ⟨kY, hkY, -⟩ := className_of_methodNamed hn₁
  have hini₁ : (Cond.initialized y.cls).before (Value.ref b :: As).toArray (T.setVm vm₁) = true := word_at hW₁ (Or.inl (by first | rfl | simp [Cond.onTables, Cond.keeps, Cond.steady])) hini
  have hinitY : kY.init = .initialized := Cond.initialized_spec (findClass_of_methodNamed hn₁) hkY hini₁
  have h : At (T.setVm vm₁) (F0 m pc ls rest).method c below := X₁.here
  have hpre : (headSpec (.code y bytes maxL ret :: TB) rm).pre.before (Value.ref b :: As).toArray (T.setVm vm₁) = true := atoms_intro fun w hw => hws w hw _ _ hW₁
  have happ : (headSpec (.code y bytes maxL ret :: TB) rm).appliesLoose y e.platform ((T.setVm vm₁).calling (F0 m pc ls rest) mk (Value.ref b :: As).toArray) = true :=
    Spec.appliesLoose_calling (g := F0 m pc ls rest) h hdg' hn₁ hkY hinitY
      (X₁.room_calling (g := F0 m pc ls rest) (R' := rm) (hls.trans hml.symm) hmY hcY hfr (by rw [hlY]; have hr9 : 2 * (F0 m pc ls rest).monitorRoom + (List.map (fun v => v.category) (F0 m pc ls rest).stack).sum ≤ 8 := hroom
                                                                                              omega) (by rw [hrc]; exact hf.1) (by rw [hrs]; exact hf.2)) hpre
  obtain ⟨mid, hmid⟩ := h.above
  have hfr2 : ((T.setVm vm₁).setTop (F0 m pc ls rest)).frames = (.java (F0 m pc ls rest) :: mid) ++ below := by rw [State.frames_setTop' _ h.top, hmid]; rfl
  obtain ⟨o, s₂, hsteps, -, hend, hq⟩ := Free.Steps.callFree (hM N) p X.admits X.cas X.clock (acts := []) hfr2 happ
    ⟨rfl, (show va_P D cl w T.heap by rw [hT]; exact hP), va_K.moved hW₁.alike hK, (XF.warm hW₁ (show XF strs N s T.heap by rw [hT]; exact hX))⟩ trivial
  obtain ⟨q, ce, rfl, hce, hcev, hcls, hW₂, hsame0⟩ := (show QT E (Value.ref b :: As).toArray ((T.setVm vm₁).calling (F0 m pc ls rest) mk (Value.ref b :: As).toArray) o s₂ from hq)
  obtain ⟨e2, q2, q3, q4, q5, q6⟩ := id hsame0
  have e3 : s₂ = ({ ((T.setVm vm₁).calling (F0 m pc ls rest) mk (Value.ref b :: As).toArray).setFrames s₂.frames with heap := s₂.heap, slotsUsed := s₂.slotsUsed } : State).setVm s₂.vm := by
    have : s₂ = ({ s₂ with vm := ((T.setVm vm₁).calling (F0 m pc ls rest) mk (Value.ref b :: As).toArray).vm } : State).setVm s₂.vm := rfl
    rw [e2] at this
    exact this
  have hf₂ : s₂.frames = .throwing q :: ((T.setVm vm₁).setTop (F0 m pc ls rest)).frames := hend
  rw [State.frames_setTop' _ h.top] at hf₂
  have hW' : (T.setVm vm₁).WarmedH s₂.vm := hW₂
  obtain ⟨g₀, hg0⟩ := Option.isSome_iff_exists.mp h.top
  obtain ⟨r, hr⟩ := State.topJava?_eq_some.mp hg0
  have hs₂ : s₂ = ((({ (T.setVm vm₁) with heap := s₂.heap, slotsUsed := s₂.slotsUsed } : State).setVm s₂.vm).setTop (F0 m pc ls rest)).pushFrame (.throwing q) := by
    have hr' : (({ (T.setVm vm₁) with heap := s₂.heap, slotsUsed := s₂.slotsUsed } : State).setVm s₂.vm).frames = .java g₀ :: r := hr
    refine e3.trans ?_
    rw [hf₂, State.calling_eq h.top, State.setFrames_setFrames, State.pushFrame, State.frames_setTop _ hr', State.setTop_of_frames _ hr', State.setFrames_setFrames, hr]
    rfl
  have hsame : (T.setVm vm₁).sameButNew ({ (T.setVm vm₁) with heap := s₂.heap, slotsUsed := s₂.slotsUsed } : State) [] 1 6 := by
    refine ⟨?_, q2, q3, q4, q5, q6⟩
    obtain ⟨t, ht, -⟩ := State.frames_cons hr
    show ({ (T.setVm vm₁) with heap := s₂.heap, slotsUsed := s₂.slotsUsed } : State) = { (T.setVm vm₁).setFrames (T.setVm vm₁).frames with heap := s₂.heap, slotsUsed := s₂.slotsUsed }
    rw [State.setFrames_self ht]
  have X₂ : Stand p l e R s m args below meth c (({ (T.setVm vm₁) with heap := s₂.heap, slotsUsed := s₂.slotsUsed } : State).setVm s₂.vm) (locs ++ []) (cells + 1) (slots + 6) :=
    ⟨X₁.admits, X₁.cas, X₁.clock, X₁.frames, X₁.room, X₁.hears, X₁.method, X₁.code, (X₁.here.setHeapUsed s₂.heap s₂.slotsUsed).setVm hW'.alike, X₁.tail, State.WarmedH.trans X₁.warmed hW', X₁.limits, X₁.bytes, X₁.same.trans (hsame.setVm s.vm)⟩
  rw [List.append_nil] at X₂
  have hcls' : s.vm.findClass E = some ce.cls := by
    have h9 : ((T.setVm vm₁).calling (F0 m pc ls rest) mk (Value.ref b :: As).toArray).vm.findClass E = some ce.cls := hcls
    have h8 : vm₁.findClass E = some ce.cls := h9
    rw [← hW₁.alike.findClass]; exact h8
  have hpl : e.platform.magicAccessors = ({} : Platform).magicAccessors := by rw [X.admits.platform]
  obtain ⟨vm', X₃, hst3⟩ := fg_caught X₂ (a := q) (g := F0 m pc ls rest) rfl (cell := ce) hce (hFG q ce hcev hcls' hpl)
  have hkeep : ∀ k : Nat, k < H.size → s₂.heap[k]? = H[k]? := by
    intro k hk
    have hk2 : k < T.heap.size := by rw [hT]; exact hk
    obtain ⟨cell, hc⟩ : ∃ cell, T.heap[k]? = some cell := ⟨_, Array.getElem?_eq_getElem hk2⟩
    obtain ⟨c', hc1, hc2, -, hc4⟩ := q6 k cell hc
    have hsl : c'.slots = cell.slots := Array.ext_getElem? fun i => hc4 i (fun hh => nomatch hh)
    rw [← hT, hc, show s₂.heap[k]? = some c' from hc1, hc2, hsl]
  obtain ⟨t, a1, b1⟩ := kk q s₂.heap (by rw [← hT]; exact q2) hkeep (((({ (T.setVm vm₁) with heap := s₂.heap, slotsUsed := s₂.slotsUsed } : State).setVm s₂.vm).setVm vm')) rfl X₃
  refine ⟨t, ?_, b1⟩
  refine hstep₁ _ fun acts => ?_
  rw [doInvoke_state]
  refine hsteps.trans ?_
  rw [hs₂]
  exact hst3 t a1
end TV
