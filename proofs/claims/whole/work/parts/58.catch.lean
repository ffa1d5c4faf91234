/-! methods that throw: their contracts, calls of them, the catch -/
def xs_end3 (st t : State) (L : List Loc) (k n : Nat) : Prop := st.WarmedH t.vm ∧ st.sameButNew ({ t with vm := st.vm } : State) L k n
def MetX (l : Launch) (y : MethodName) (ws : List Cond) (rm : Room) (Pc : Array Value → State → Prop) (Qc : Array Value → State → Nat → State → Prop) (mc ms : Nat) (free : Addr → Prop) : Prop :=
  MetFree l y (headSpec ws rm) Pc (fun _ _ _ _ _ => True) (fun a st o t => ∃ x : Nat, o = .threw x ∧ Qc a st x t ∧ ∃ L, xs_end3 st t L mc ms ∧ ∀ q ∈ L, free q.base)
theorem MetX.ofW {l : Launch} {y : MethodName} {ws ws' : List Cond} {rm : Room} {Pc : Array Value → State → Prop} {Qc : Array Value → State → Nat → State → Prop} {mc ms : Nat} {free : Addr → Prop} {cc : ByteArray} {maxL : Nat} {ret : Option FieldType}
    (hy : plainName y.cls = true) (hw : ws = Cond.code y cc maxL ret :: ws')
    (body : ∀ p e s m args below meth c s₁, BodyLoose p l y (headSpec ws rm) cc maxL ret e s m args below meth c s₁ → c.maxLocals = maxL → Pc args s →
      W p l e (headSpec ws rm).room s m args below meth c s.heap [] 0 0 (MQX below Qc args s mc ms free) (entryFrame m args maxL)) : MetX l y ws rm Pc Qc mc ms free := by
  refine MetFree.of_bodyS (code := cc) (maxLocals := maxL) (ret := ret) hy (fun args s m h hn => ?_) (fun p e s m args below meth c s₁ B hml hP _ => ?_)
  · obtain ⟨meth, c, h1, h2, h3, h4, h5, h6, -, -⟩ := Cond.code_spec hn (atoms_spec (ws := ws) h _ (by rw [hw]; exact List.mem_cons_self))
    exact ⟨meth, c, h1, h2, h3, h4, h5, h6⟩
  · obtain ⟨t, a1, x, b1, b2, b3, b4, L, b5, b6⟩ := body p e s m args below meth c s₁ B hml hP s₁ (by rw [B.state]; rfl) (Stand.of_body B)
    exact ⟨t, .threw x, a1, b1, b2, x, rfl, b3, L, ⟨b4, b5⟩, b6⟩
def ct_QX (D : va_G) (cl : List vw_C) (A : Nat → Prop) (cs' : va_W) (C : String) : Array Value → State → Nat → State → Prop := fun _ st x t => (va_P D cl cs' t.heap ∧ xs_isX C x t) ∧ va_F A st t
def CtX (E : State → Prop) (l : Launch) (D : va_G) (cl : List vw_C) (y : MethodName) (ws : List Cond) (rm : Room) (tys : List (ClassId × FieldType)) (av : List Value) (cs cs' : va_W) (C : String) : Prop :=
  ∀ sz : Nat, MetX l y ws rm (va_Pc av (ct_BE E D cl tys cs sz)) (ct_QX D cl (va_A cs sz) cs' C) rm.cells rm.slots (va_A cs sz)
def va_RunX (p : Program) (l : Launch) (e : Env) (R : Room) (s : State) (m : MethodId) (args : Array Value) (below : List Frame) (meth : Method) (c : Code) (H : Heap) (locs : List Loc) (cells slots mc ms : Nat) (g : JFrame) (rest : List Value) (Qa : State → Nat → State → Prop) (free : Addr → Prop) : Prop :=
  ∀ T : State, T.heap = H → Stand p l e R s m args below meth c T locs cells slots → ∃ (x : Nat) (st₀ t T' : State) (L : List Loc), st₀.heap = H ∧ Stand p l e R s m args below meth c T' (locs ++ L) (cells + mc) (slots + ms) ∧ (∀ q ∈ L, free q.base) ∧ T'.heap = t.heap ∧ T'.vm = t.vm ∧ Qa st₀ x t ∧
    Steps p.tables e below (T.setTop g) ((T'.setTop { g with stack := rest }).pushFrame (.throwing x))
/-- where a throw of C at pc is caught: at hpc -/
def xs_C (p : Program) (l : Launch) (e : Env) (R : Room) (s : State) (m : MethodId) (args : Array Value) (below : List Frame) (meth : Method) (c : Code) (C : String) (pc hpc : Nat) : Prop :=
  ∀ (T : State) (locs : List Loc) (cells slots a : Nat) (ls : Array Slot) (st : List Value) (s₀ : State), Stand p l e R s m args below meth c T locs cells slots → xs_isX C a T → Steps p.tables e below s₀ ((T.setTop (F0 m pc ls st)).pushFrame (.throwing a)) →
    ∃ vm', Stand p l e R s m args below meth c (T.setVm vm') locs cells slots ∧ Steps p.tables e below s₀ ((T.setVm vm').setTop (F0 m hpc ls [.ref a]))
section
variable {p : Program} {l : Launch} {e : Env} {R : Room} {s : State} {m : MethodId} {args : Array Value} {below : List Frame} {meth : Method} {c : Code} {H : Heap} {locs : List Loc} {cells slots : Nat} {Q : State → Prop}
variable {y : MethodName} {bytes cc : ByteArray} {maxL nL mc ms n index : Nat} {ret : Option FieldType} {ws : List Cond} {rm : Room} {Pc : Array Value → State → Prop} {Qc : Array Value → State → Nat → State → Prop} {free : Addr → Prop} {Ts : List Cond} {own C : String} {b : Addr} {As rest : List Value} {g : JFrame}
/-- a call that ends in a throw, from where the method is entered -/
theorem xs_back {T : State} (X : Stand p l e R s m args below meth c T locs cells slots) (hM : MetX l y ws rm Pc Qc rm.cells rm.slots free) (hR : rm.frames + 1 ≤ R.frames ∧ 8 + (maxL + 11) + rm.locals ≤ R.locals) (hws : ∀ w ∈ ws, ∀ (a' : Array Value) (U : State), s.WarmedH U.vm → w.before a' U = true) (hcw : Cond.code y bytes maxL ret ∈ ws)
    (hini : (Cond.initialized y.cls).before args s = true) (hf : cells + rm.cells ≤ R.cells ∧ slots + rm.slots ≤ R.slots) (hg : g.method = m) (hsize : g.locals.size = c.maxLocals) {ig : Instr} {len : Nat} (hdg : decode c.code g.pc = .ok (ig, len)) (hW : 2 * g.monitorRoom + (g.stack.map fun v => v.category).sum ≤ 8) {mk : MethodId} (hn : T.methodNamed? y = some mk) {av : Array Value} (hP : Pc av (T.calling g mk av)) :
    ∃ (x : Nat) (t : State) (L : List Loc), Qc av (T.calling g mk av) x t ∧ (∀ q ∈ L, free q.base) ∧ Stand p l e R s m args below meth c (({ T with heap := t.heap, slotsUsed := t.slotsUsed } : State).setVm t.vm) (locs ++ L) (cells + rm.cells) (slots + rm.slots) ∧
      Steps p.tables e below (doInvoke e (T.setTop g) [] mk av).1 (((({ T with heap := t.heap, slotsUsed := t.slotsUsed } : State).setVm t.vm).setTop g).pushFrame (.throwing x)) := by
  have hAt : At T g.method c below := by rw [hg]; exact X.here
  obtain ⟨methY, cY, hmY, hcY, -, hlY, -, -, -, -⟩ := Cond.code_spec hn (hws _ hcw av T X.warmed)
  obtain ⟨kY, hkY, -⟩ := className_of_methodNamed hn
  have hiY : (Cond.initialized y.cls).before av T = true := word_at X.warmed (Or.inl (by first | rfl | simp [Cond.onTables, Cond.keeps, Cond.steady])) hini
  have hinitY : kY.init = .initialized := Cond.initialized_spec (findClass_of_methodNamed hn) hkY hiY
  have hroom := X.room_calling (g := g) (m' := mk) (args' := av) (R' := rm) hsize hmY hcY hR.1 (by rw [hlY]; omega) hf.1 hf.2
  have happ : (headSpec ws rm).appliesLoose y e.platform (T.calling g mk av) = true := Spec.appliesLoose_calling (g := g) hAt hdg hn hkY hinitY hroom (atoms_intro fun w hw => hws w hw _ _ X.warmed)
  obtain ⟨mid, hmid⟩ := hAt.above
  have hfr : (T.setTop g).frames = (.java g :: mid) ++ below := by rw [State.frames_setTop' g hAt.top, hmid]; rfl
  obtain ⟨o, t, hsteps, -, hend, x, ho, hq, L, ⟨hW2, hsame⟩, hL⟩ := Steps.callFree hM p X.admits X.cas X.clock (acts := []) hfr happ hP trivial
  subst ho
  rw [State.frames_setTop' g hAt.top] at hend
  have hft : t.frames = .throwing x :: .java g :: T.frames.tail := hend
  obtain ⟨g₀, hg0⟩ := Option.isSome_iff_exists.mp hAt.top
  obtain ⟨r, hr⟩ := State.topJava?_eq_some.mp hg0
  have hWT : T.WarmedH t.vm := hW2
  have hst : t = (((({ T with heap := t.heap, slotsUsed := t.slotsUsed } : State).setVm t.vm).setTop g).pushFrame (.throwing x)) := by
    have e1 : ({ t with vm := (T.calling g mk av).vm } : State) = { (T.calling g mk av).setFrames t.frames with heap := t.heap, slotsUsed := t.slotsUsed } := hsame.1
    have e2 : t = ({ (T.calling g mk av).setFrames t.frames with heap := t.heap, slotsUsed := t.slotsUsed } : State).setVm t.vm := by
      rw [← e1]
      rfl
    have hr2 : (({ T with heap := t.heap, slotsUsed := t.slotsUsed } : State).setVm t.vm).frames = .java g₀ :: r := hr
    refine e2.trans ?_
    rw [State.calling_eq hAt.top, State.setFrames_setFrames, hft, State.pushFrame, State.frames_setTop _ hr2, State.setTop_of_frames _ hr2, State.setFrames_setFrames, hr]
    rfl
  have hs1 : T.sameButNew ((({ T with heap := t.heap, slotsUsed := t.slotsUsed } : State).setVm t.vm).setVm T.vm) L rm.cells rm.slots := by
    refine ⟨?_, hsame.2⟩
    obtain ⟨th, hth, -⟩ := State.frames_cons hr
    show ({ T with heap := t.heap, slotsUsed := t.slotsUsed } : State) = { T.setFrames T.frames with heap := t.heap, slotsUsed := t.slotsUsed }
    rw [State.setFrames_self hth]
  have X' := X.moved (T₂ := ({ T with heap := t.heap, slotsUsed := t.slotsUsed } : State).setVm t.vm) ((X.here.setHeapUsed t.heap t.slotsUsed).setVm hWT.alike) X.tail rfl rfl hWT hs1
  exact ⟨x, t, L, hq, hL, X', by rw [← hst]; exact hsteps⟩
theorem va_runXV (S : CallFix p m c cc nL s args Ts own) (hM : MetX l y ws rm Pc Qc rm.cells rm.slots free) (cw : CallW R s args own C index y bytes maxL ret ws rm rm.cells rm.slots n) (hp : PreV s H C b Pc As)
    (hg : g.method = m) (hn : As.length = n) (hsize : g.locals.size = nL) (hstack : g.stack = As.reverse ++ .ref b :: rest) (hW : 2 * g.monitorRoom + (rest.map fun v => v.category).sum ≤ 8) (hdg : decode cc g.pc = .ok (.invokevirtual index, 3)) (hf : cells + rm.cells ≤ R.cells ∧ slots + rm.slots ≤ R.slots) :
    va_RunX p l e R s m args below meth c H locs cells slots rm.cells rm.slots g rest (Qc (Value.ref b :: As).toArray) free := by
  obtain ⟨⟨-, -, hfr, hlo, hws, hcw, hcode, hini, hy, hlen, hl⟩, hin, hse⟩ := cw
  obtain ⟨hx, hb, hml, ho, -⟩ := S
  obtain ⟨hbl, ⟨cellB, hcB, hoB, hclB⟩, hPc⟩ := hp
  obtain ⟨mk, methM, hnamed, hmethM, hstM, habM⟩ := Cond.instanceMethod_spec hin
  obtain ⟨methM', cM, hmethM', -, -, -, -, -, -, hsigM⟩ := Cond.code_spec hnamed hcode
  cases hmethM.symm.trans hmethM'
  obtain ⟨c2, r2, m2, q1, q2, q3, q4, kP, hkP, hkPi⟩ := Cond.selects_spec hse
  cases hclB.symm.trans q1
  cases (State.methodFound?_of_named hnamed hy).symm.trans q2
  cases hnamed.symm.trans q3
  intro T hT X
  have hsel : selectMethod e.platform s.vm cellB.cls mk = .method mk := by rw [Launch.admits_selectMethod X.admits]; exact q4
  obtain ⟨vm₁, X₁, hstep⟩ := X.invokevirtual hx ho hl hnamed hmethM hstM hkP hkPi hy (a := b) (cell := cellB) (by rw [hT]; exact hcB) (fun z h => by rw [h] at hoB; cases hoB) hsel hmethM habM hkP hkPi (g := g) hg (argsL := As) (rest := rest) (by rw [hn]; exact hlen _ hsigM) hstack (by rw [hb]; exact hdg)
  obtain ⟨x, t, L, hq, hL, X', st⟩ := xs_back (bytes := bytes) (maxL := maxL) (ret := ret) (g := { g with stack := rest }) (av := (Value.ref b :: As).toArray) X₁ hM ⟨hfr, hlo⟩ hws hcw hini hf hg (hsize.trans hml.symm) (by rw [hb]; exact hdg) hW (X₁.named hnamed) (hbl _ _ _ _ (hPc (T.setVm vm₁) hT X₁.warmed))
  exact ⟨x, (T.setVm vm₁).calling { g with stack := rest } mk (Value.ref b :: As).toArray, t, _, L, hT, X', hL, rfl, rfl, hq, hstep _ fun acts => by rw [doInvoke_state]; exact st⟩
/-- a row of the table whose class links: the search notes it, and takes the object or goes on -/
theorem xs_row {S : State} {f : JFrame} {a : Nat} {x : ExceptionTableEntry} {tl : List ExceptionTableEntry} {cT : ClassId} {cell : Cell} {Qh : Handler → Pre} {Eh : CtlPost} {d : Bool} {acts : List Action} (hx : covers x f.pc = true) (h0 : x.catchType ≠ 0) (hl : S.vm.ClassLinks e.platform f.method.cls x.catchType cT) (hcell : S.heap[a]? = some cell) (hobj : ∀ k, cell.vm ≠ .statics k)
    (hk : ∃ k, S.vm.classes[cell.cls]? = some k) (hc : ∃ k, S.vm.classes[cT]? = some k) :
    Sem.wp (findHandler.go f a (x :: tl)) Qh Eh e d acts S ↔ if S.vm.assignable cell.cls cT = true then Qh (.found x.handlerPc) d acts (S.setVm (S.vm.noted f.method.cls x.catchType (.cls cT))) else Sem.wp (findHandler.go f a tl) Qh Eh e d acts (S.setVm (S.vm.noted f.method.cls x.catchType (.cls cT))) := by
  have hx2 : (decide (x.startPc ≤ f.pc) && decide (f.pc < x.endPc)) = true := hx
  obtain ⟨g1, g2⟩ := (resolveClass_links e.toSetting hl).op (op := VmOp.resolveClass f.method.cls x.catchType) rfl
  have hal : S.vm.Alike (S.vm.noted f.method.cls x.catchType (.cls cT)) := (Vm.Alike.refl S.vm).noted _ _ _
  obtain ⟨k1, hk1⟩ := hk
  obtain ⟨k2, hk2⟩ := hc
  obtain ⟨k1', hk1', -⟩ := hal.2.2 _ _ hk1
  obtain ⟨k2', hk2', -⟩ := hal.2.2 _ _ hk2
  have has : (S.vm.noted f.method.cls x.catchType (.cls cT)).assignable cell.cls cT = S.vm.assignable cell.cls cT := hal.assignable _ _
  cases hfit : S.vm.assignable cell.cls cT <;> (rw [hfit] at has; simp [findHandler.go, hx2, h0, g1, g2, hcell, hobj, hk1', hk2', has, VmOp.dirties, VmOp.acts])
/-- the step into a handler, where the search has noted something -/
theorem xs_caught {T target : State} {a pcH : Nat} {vm' : Vm} (hAt : At T g.method c below) (hfind : ∀ (Qh : Handler → Pre) (Eh : CtlPost) (d : Bool) (acts : List Action), Sem.wp (findHandler g a) Qh Eh e d acts ((T.setTop g).pushFrame (.throwing a)) ↔ Qh (.found pcH) d acts (((T.setTop g).pushFrame (.throwing a)).setVm vm'))
    (hrest : Steps p.tables e below ((T.setVm vm').setTop { g with pc := pcH, stack := [.ref a] }) target) : Steps p.tables e below ((T.setTop g).pushFrame (.throwing a)) target := by
  obtain ⟨hgo, hwi⟩ := hAt.throwing a
  refine Steps.head hgo hwi ?_
  rw [stepThread_throwing (frames_entered hAt.top _)]
  have hs : (stepThrowing e ((T.setTop g).pushFrame (.throwing a)) a (.java g :: T.frames.tail)).1 = (((T.setTop g).pushFrame (.throwing a)).setVm vm').setFrames (.java { g with pc := pcH, stack := [.ref a] } :: T.frames.tail) := by
    simp only [stepThrowing, searchFrame, vmDo]
    generalize hr : Sem.go _ e false [] _ = res
    obtain ⟨as, rfl, ha⟩ := Sem.eq_ok_of hr (a := Handler.found pcH) (s' := ((T.setTop g).pushFrame (.throwing a)).setVm vm') (acts' := []) (by simp [hfind _ _ _ _])
    rfl
  rw [hs]
  obtain ⟨g₀, hg0⟩ := Option.isSome_iff_exists.mp hAt.top
  obtain ⟨r, hr⟩ := State.topJava?_eq_some.mp hg0
  have hr2 : (T.setVm vm').frames = .java g₀ :: r := hr
  rw [State.setTop_of_frames _ hr2] at hrest
  have e1 : (((T.setTop g).pushFrame (.throwing a)).setVm vm').setFrames (.java { g with pc := pcH, stack := [.ref a] } :: T.frames.tail) = (T.setVm vm').setFrames (.java { g with pc := pcH, stack := [.ref a] } :: r) := by
    rw [State.pushFrame, State.setTop_of_frames _ hr, State.setFrames_setFrames, hr]
    show (((T.setFrames _).setVm vm').setFrames _) = _
    rw [show (T.setFrames (Frame.throwing a :: (T.setFrames (Frame.java g :: r)).frames)).setVm vm' = (T.setVm vm').setFrames (Frame.throwing a :: (T.setFrames (Frame.java g :: r)).frames) from rfl, State.setFrames_setFrames]
    rfl
  rw [e1]
  exact hrest
/-- one catching row -/
theorem xs_c1 {pc : Nat} (hown : s.vm.findClass own = some m.cls) (x : ExceptionTableEntry) (tl : List ExceptionTableEntry) (ht : c.exceptionTable.toList = x :: tl) (hx : covers x pc = true) (h0 : x.catchType ≠ 0)
    (hlink : (Cond.classLink own x.catchType C).before args s = true) (hself : (Cond.castable C C).before args s = true) : xs_C p l e R s m args below meth c C pc x.handlerPc := by
  intro T locs cells slots a ls st s₀ X hX hcome
  have hpl : e.platform.magicAccessors = ({} : Platform).magicAccessors := by rw [X.admits.platform]
  obtain ⟨ce, h1, h2, h3⟩ := hX
  obtain ⟨c3, cT, hc3, hcT, hasg⟩ := Cond.castable_spec hself
  have h2' : s.vm.findClass C = some ce.cls := by rw [← X.warmed.alike.findClass]; exact h2
  cases hc3.symm.trans h2'
  cases hc3.symm.trans hcT
  obtain ⟨cL, hcL, hcl⟩ := Cond.classLink_spec hown hlink e.platform hpl
  cases hcT.symm.trans hcL
  obtain ⟨dk, _, _, kt, hd, _, _, _, _, hkt, _, hopen⟩ := hcl.here
  obtain ⟨kt', hkt', -⟩ := X.warmed.alike.2.2 _ _ hkt
  have hT : ((T.setTop (F0 m pc ls st)).pushFrame (.throwing a)).vm = T.vm := Stand.throwing_vm T _ a
  have hH : ((T.setTop (F0 m pc ls st)).pushFrame (.throwing a)).heap = T.heap := Stand.throwing_heap T _ a
  have hW' : s.WarmedH (T.vm.noted m.cls x.catchType (.cls ce.cls)) := X.warmed.noted hd hopen (State.rightAt_cls hcl)
  refine ⟨_, X.noted hW', hcome.trans (xs_caught (g := F0 m pc ls st) (vm' := T.vm.noted m.cls x.catchType (.cls ce.cls)) X.here (fun Qh Eh d acts => ?_) (Steps.refl _))⟩
  rw [Jvm.W.findHandler_eq (by rw [hT]; exact X.method') X.code, ht]
  rw [xs_row (f := F0 m pc ls st) hx h0 (cT := ce.cls) (cell := ce) (by rw [hT]; exact X.warmed.classLinks hcl) (by rw [hH]; exact h1) (VmData.ne_statics_of h3) (by rw [hT]; exact ⟨kt', hkt'⟩) (by rw [hT]; exact ⟨kt', hkt'⟩), hT, X.warmed.alike.assignable, if_pos hasg]
/-- a row that doesn't take it, then one that does -/
theorem xs_c2 {pc : Nat} {C1 : String} (hown : s.vm.findClass own = some m.cls) (x1 x : ExceptionTableEntry) (tl : List ExceptionTableEntry) (ht : c.exceptionTable.toList = x1 :: x :: tl) (hx : covers x pc = true) (hx1 : covers x1 pc = true) (h0 : x.catchType ≠ 0) (h1 : x1.catchType ≠ 0)
    (hlink1 : (Cond.classLink own x1.catchType C1).before args s = true) (hlink : (Cond.classLink own x.catchType C).before args s = true) (hself : (Cond.castable C C).before args s = true) (hno : (Cond.not (.castable C C1)).before args s = true) : xs_C p l e R s m args below meth c C pc x.handlerPc := by
  intro T locs cells slots a ls st s₀ X hX hcome
  have hpl : e.platform.magicAccessors = ({} : Platform).magicAccessors := by rw [X.admits.platform]
  obtain ⟨ce, g1, g2, g3⟩ := hX
  obtain ⟨c3, cT, hc3, hcT, hasg⟩ := Cond.castable_spec hself
  have h2' : s.vm.findClass C = some ce.cls := by rw [← X.warmed.alike.findClass]; exact g2
  cases hc3.symm.trans h2'
  cases hc3.symm.trans hcT
  obtain ⟨cL, hcL, hcl⟩ := Cond.classLink_spec hown hlink e.platform hpl
  cases hcT.symm.trans hcL
  obtain ⟨cN, hcN, hcl1⟩ := Cond.classLink_spec hown hlink1 e.platform hpl
  have hn : s.vm.assignable ce.cls cN = false := by
    have hv := Cond.holds_not_iff.mp hno
    simp only [Cond.value, hcT, hcN] at hv
    exact Option.some.inj hv
  obtain ⟨dk, _, _, kt, hd, _, _, _, _, hkt, _, hopen⟩ := hcl.here
  obtain ⟨dk1, _, _, kt1, hd1, _, _, _, _, hkt1, _, hopen1⟩ := hcl1.here
  have hT : ((T.setTop (F0 m pc ls st)).pushFrame (.throwing a)).vm = T.vm := Stand.throwing_vm T _ a
  have hH : ((T.setTop (F0 m pc ls st)).pushFrame (.throwing a)).heap = T.heap := Stand.throwing_heap T _ a
  have hW1 : s.WarmedH (T.vm.noted m.cls x1.catchType (.cls cN)) := X.warmed.noted hd1 hopen1 (State.rightAt_cls hcl1)
  have hW2 : s.WarmedH ((T.vm.noted m.cls x1.catchType (.cls cN)).noted m.cls x.catchType (.cls ce.cls)) := hW1.noted hd hopen (State.rightAt_cls hcl)
  obtain ⟨kt', hkt', -⟩ := X.warmed.alike.2.2 _ _ hkt
  obtain ⟨kt1', hkt1', -⟩ := X.warmed.alike.2.2 _ _ hkt1
  obtain ⟨kt2, hkt2, -⟩ := hW1.alike.2.2 _ _ hkt
  refine ⟨_, X.noted hW2, hcome.trans (xs_caught (g := F0 m pc ls st) (vm' := (T.vm.noted m.cls x1.catchType (.cls cN)).noted m.cls x.catchType (.cls ce.cls)) X.here (fun Qh Eh d acts => ?_) (Steps.refl _))⟩
  rw [Jvm.W.findHandler_eq (by rw [hT]; exact X.method') X.code, ht]
  rw [xs_row (f := F0 m pc ls st) hx1 h1 (cT := cN) (cell := ce) (by rw [hT]; exact X.warmed.classLinks hcl1) (by rw [hH]; exact g1) (VmData.ne_statics_of g3) (by rw [hT]; exact ⟨kt', hkt'⟩) (by rw [hT]; exact ⟨kt1', hkt1'⟩), hT, X.warmed.alike.assignable, if_neg (by rw [hn]; decide)]
  rw [xs_row (f := F0 m pc ls st) hx h0 (cT := ce.cls) (cell := ce) (by exact hW1.classLinks hcl) (by show ((T.setTop (F0 m pc ls st)).pushFrame (.throwing a)).heap[a]? = _; rw [hH]; exact g1) (VmData.ne_statics_of g3) ⟨kt2, hkt2⟩ ⟨kt2, hkt2⟩]
  rw [if_pos (by show (T.vm.noted m.cls x1.catchType (.cls cN)).assignable ce.cls ce.cls = true; rw [hW1.alike.assignable]; exact hasg)]
  rfl
variable {pc hpc : Nat} {ls : Array Slot} {st0 : List Value} {A : Nat → Prop} {H0 : Heap} {D : va_G} {cl : List vw_C} {tys : List (ClassId × FieldType)} {w0 cs cs' : va_W} {av : Array Value} {CX : String}
theorem cx_call (hr : va_RunX p l e R s m args below meth c H locs cells slots mc ms (F0 m pc ls st0) rest (ct_QX D cl (va_A cs H.size) cs' CX av) (va_A cs H.size)) (hcat : xs_C p l e R s m args below meth c CX pc hpc) (hP : va_P D cl (w0 ++ cs) H) (hD : va_D A (w0 ++ cs)) (hS : va_S A H0 H locs) (hA : ∀ q, H0.size ≤ q → A q) (hm : cs'.map (·.1) = cs.map (·.1))
    (kk : ∀ (x : Nat) (H1 : Heap) (locs1 : List Loc), va_P D cl (w0 ++ cs') H1 → va_D A (w0 ++ cs') → va_S A H0 H1 locs1 → W p l e R s m args below meth c H1 locs1 (cells + mc) (slots + ms) Q (F0 m hpc ls [.ref x])) : W p l e R s m args below meth c H locs cells slots Q (F0 m pc ls st0) := by
  intro T hT X
  obtain ⟨hP0, hPc⟩ := app_P.mp hP
  obtain ⟨hD0, hDc, hap⟩ := app_D hD
  have hF : ∀ q, va_A cs H.size q → A q := fun q h => by
    rcases h with ⟨k, e, h⟩ | h
    · exact hDc.2 k (q, e) h
    · exact hA q (Nat.le_trans hS.1 h)
  have hN : ∀ q ∈ w0, q.1 < H.size ∧ ¬ va_A cs H.size q.1 := fun q hq => by
    have hlt := (va_P_iff.mp hP0 q hq).lt
    refine ⟨hlt, fun h => ?_⟩
    rcases h with ⟨k, e, h⟩ | h
    · exact hap q hq (q.1, e) (List.mem_of_getElem? h) rfl
    · omega
  obtain ⟨x, st₀, t, T', L, h0, X', hL, e1, e2, ⟨⟨hp, hx⟩, hz, hk⟩, st⟩ := hr T hT X
  rw [h0] at hz hk
  have hX' : xs_isX CX x T' := by
    obtain ⟨ce, g1, g2, g3⟩ := hx
    exact ⟨ce, by rw [e1]; exact g1, by rw [e2]; exact g2, g3⟩
  obtain ⟨vm', X2, st2⟩ := hcat T' _ _ _ x ls rest _ X' hX' st
  have hP1 : va_P D cl (w0 ++ cs') T'.heap := by
    rw [e1]
    refine app_P.mpr ⟨va_P_iff.mpr fun q hq => ?_, hp⟩
    obtain ⟨h1, h2⟩ := hN q hq
    exact (va_P_iff.mp hP0 q hq).kept (hk q.1 h1 h2)
  have hD1 : va_D A (w0 ++ cs') := ct_D hD (by rw [List.map_append, List.map_append, hm])
  obtain ⟨t2, a1, b1⟩ := kk x T'.heap (locs ++ L) hP1 hD1
    ⟨Nat.le_trans hS.1 (by rw [e1]; exact hz), fun q h1 h2 => by rw [e1, hk q (Nat.lt_of_lt_of_le h1 hS.1) (fun z => h2 (hF q z))]; exact hS.2.1 q h1 h2, fun q hq => by
      rcases List.mem_append.mp hq with h | h
      · exact hS.2.2 q h
      · exact hF _ (hL q h)⟩ (T'.setVm vm') rfl X2
  exact ⟨t2, st2.trans a1, b1⟩
end
/-- what the calls of throwing methods ask besides the world: the nest's words, and the base -/
def xE (s0 : State) (U : State) : Prop := nwF U ∧ xB s0 U
theorem xE_same {s0 u U : State} (hv : u.vm = U.vm) (hh : u.heap = U.heap) (h : xE s0 u) : xE s0 U := ⟨nwF_same hv h.1, by rw [← hv]; exact h.2.1, fun q hq => by rw [← hh]; exact h.2.2 q hq⟩
theorem xs_sz {s0 s : State} (h : xB s0 s) : s0.heap.size ≤ s.heap.size := by
  rcases Nat.eq_zero_or_pos s0.heap.size with h0 | h0
  · omega
  · have h1 := h.2 (s0.heap.size - 1) (by omega)
    rw [Array.getElem?_eq_getElem (show s0.heap.size - 1 < s0.heap.size by omega)] at h1
    have h2 := (Array.getElem?_eq_some_iff.mp h1).1
    omega
theorem xs_A {cs : va_W} {s0 : State} {sz : Nat} (hcs : ∀ q ∈ cs, s0.heap.size ≤ q.1) (hsz : s0.heap.size ≤ sz) (q : Nat) (h : va_A cs sz q) : s0.heap.size ≤ q := by
  rcases h with ⟨k, e, h⟩ | h
  · exact hcs (q, e) (List.mem_of_getElem? h)
  · omega
theorem xs_H {s0 s : State} {A : Nat → Prop} {H : Heap} {locs : List Loc} (hB : xB s0 s) (hS : va_S A s.heap H locs) (hAq : ∀ q, A q → s0.heap.size ≤ q) : ∀ q : Nat, q < s0.heap.size → H[q]? = s0.heap[q]? := fun q hq => by
  rw [hS.2.1 q (Nat.lt_of_lt_of_le hq (xs_sz hB)) (fun h => absurd (hAq q h) (by omega))]
  exact hB.2 q hq
theorem xs_blind {s0 : State} {D : va_G} {cl : List vw_C} {tys : List (ClassId × FieldType)} (av : List Value) (cs : va_W) (sz : Nat) : FrameBlind (va_Pc av (ct_BE (xE s0) D cl tys cs sz)) := fun _ U _ _ q => by
  obtain ⟨q0, q1, qP, qK, qD, qE⟩ := q
  exact ⟨q0, q1, qP, va_K.moved (u := U) (Vm.Alike.refl U.vm) qK, qD, xE_same (u := U) rfl rfl qE⟩
section
variable {p : Program} {l : Launch} {e : Env} {R : Room} {s : State} {m : MethodId} {args : Array Value} {below : List Frame} {meth : Method} {c : Code} {H : Heap} {locs : List Loc} {cells slots : Nat}
variable {cc : ByteArray} {pc : Nat} {ls : Array Slot} {rest : List Value} {A : Nat → Prop} {D : va_G} {cl : List vw_C} {tys : List (ClassId × FieldType)} {w0 cs cs' : va_W}
theorem cx_pre {s0 : State} (hP : va_P D cl (w0 ++ cs) H) (hD : va_D A (w0 ++ cs)) (hK : va_K D cl tys s) (hE : nwF s) (hB : xB s0 s) (hH : ∀ q : Nat, q < s0.heap.size → H[q]? = s0.heap[q]?) (av : List Value) : ∀ U : State, U.heap = H → s.WarmedH U.vm → va_Pc av (ct_BE (xE s0) D cl tys cs H.size) av.toArray U := fun U hU hW => by
  refine ⟨rfl, by rw [hU], ?_, va_K.moved hW.alike hK, (app_D hD).2.1.weaken (fun _ _ _ _ => trivial), nwF_warm hW hE, State.WarmedH.trans hB.1 hW, fun q hq => by rw [hU]; exact hH q hq⟩
  rw [hU]
  exact (app_P.mp hP).2
theorem lx_throwC (hexec : p.tables.exec = Jvm.exec) (hb : c.code = cc) (hlt : l.stackTraces = false) (hlocks : meth.locks = false) (hml : c.maxLocals = ls.size) {own C tx : String} {ic ix k sa : Nat} (hown : s.vm.findClass own = some m.cls)
    {s0 : State} {A0 : Array Value} (hB : xB s0 s) (hS : va_S A s.heap H locs) (hAq : ∀ q, A q → s0.heap.size ≤ q) (h0 : ∀ w ∈ xs_own own ic ix C, w.before A0 s0 = true) (hg : (xs_own own ic ix C).all xs_g = true) (hfit : Bundle.fit C = true) (hst : vk_R own k tx sa s)
    (hcells : cells + 1 ≤ R.cells) (hslots : slots + 6 ≤ R.slots) (hframes : 6 ≤ R.frames) (hlocals : (rest.map fun v => v.category).sum + 82 ≤ R.locals) (hout : ∀ x ∈ c.exceptionTable.toList, covers x (pc + 9) = false)
    (hd0 : decode cc pc = .ok (.new ix, 3)) (hd3 : decode cc (pc + 3) = .ok (.dup, 1)) (hd4 : decode cc (pc + 4) = .ok (.ldc k, 2)) (hd6 : decode cc (pc + 6) = .ok (.invokespecial ic, 3)) (hd9 : decode cc (pc + 9) = .ok (.athrow, 1)) (hP : va_P D cl cs' H) :
    W p l e R s m args below meth c H locs cells slots (MQX below (ct_QX D cl A cs' C) args s (cells + 1) (slots + 6) A) (F0 m pc ls rest) := by
  refine lx_throw hexec hb hlt hlocks hml hown hB.1 (xs_H hB hS hAq) h0 hg hfit hst hcells hslots hframes hlocals hout hd0 hd3 hd4 hd6 hd9 hS.2.2 (fun x t hx hX hk hz hW => ?_)
  refine ⟨⟨va_P_iff.mpr fun q hq => ?_, hX⟩, Nat.le_trans hS.1 hz, fun q h1 h2 => ?_⟩
  · have h := va_P_iff.mp hP q hq
    exact h.kept (hk q.1 h.lt)
  · rw [hk q (Nat.lt_of_lt_of_le h1 hS.1)]
    exact hS.2.1 q h1 h2
end
theorem xs_not {C T : String} {A A' : Array Value} {s0 U : State} (hW : s0.WarmedH U.vm) (h : (Cond.not (.castable C T)).before A s0 = true) : (Cond.not (.castable C T)).before A' U = true := by
  have e1 : U.vm.findClass C = s0.vm.findClass C := hW.alike.findClass _ _
  have e2 : U.vm.findClass T = s0.vm.findClass T := hW.alike.findClass _ _
  simp only [Cond.before, Cond.holds, Cond.value, e1, e2] at h ⊢
  cases hc : s0.vm.findClass C with
  | none => rw [hc] at h; simp at h
  | some c =>
    cases ht : s0.vm.findClass T with
    | none => rw [hc, ht] at h; simp at h
    | some t =>
      rw [hc, ht] at h
      simp only [hW.alike.assignable]
      exact h
theorem nwC_same {u U : State} (h : u.vm = U.vm) (hE : nwC u) : nwC U := ⟨nwN_same h hE.1, aoI_same h hE.2.1, va_AO.moved (by rw [h]; exact Vm.Alike.refl _) hE.2.2.1, va_AO.moved (by rw [h]; exact Vm.Alike.refl _) hE.2.2.2.1, fun C hC => va_Nw.same rfl h (hE.2.2.2.2 C hC)⟩
theorem nwC_warm {s U : State} (hW : s.WarmedH U.vm) (hE : nwC s) : nwC U := ⟨nwN_warm hW hE.1, aoI_warm hW hE.2.1, va_AO.moved hW.alike hE.2.2.1, va_AO.moved hW.alike hE.2.2.2.1, fun C hC => va_Nw.warmC hW (hE.2.2.2.2 C hC)⟩
