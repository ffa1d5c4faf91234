/-! methods with handlers; static calls of such; weaker starts, wider ends -/
theorem Met.weak {l : Launch} {y : MethodName} {ws : List Cond} {rm : Room} {Pc Pc' : Array Value → State → Prop} {Qc Qc' : Array Value → State → Outcome → State → Prop} {mc ms : Nat} {free : Addr → Prop} (h : Met l y ws rm Pc Qc mc ms free) (hp : ∀ a U, Pc' a U → Pc a U) (hq : ∀ a st o t, Pc' a st → Qc a st o t → Qc' a st o t) : Met l y ws rm Pc' Qc' mc ms free := by
  intro p e ha hc hk s m args below hf hS hP hK
  obtain ⟨n, o, h1, h2, h3, h4, h5⟩ := h p e ha hc hk s m args below hf hS (hp _ _ hP) hK
  exact ⟨n, o, h1, h2, h3, hq _ _ _ _ hP h4, h5⟩
theorem MetX.weak {l : Launch} {y : MethodName} {ws : List Cond} {rm : Room} {Pc Pc' : Array Value → State → Prop} {Qc : Array Value → State → Nat → State → Prop} {mc ms : Nat} {free : Addr → Prop} (h : MetX l y ws rm Pc Qc mc ms free) (hp : ∀ a U, Pc' a U → Pc a U) : MetX l y ws rm Pc' Qc mc ms free := by
  intro p e ha hc hk s m args below hf hS hP hK
  exact h p e ha hc hk s m args below hf hS (hp _ _ hP) hK
/-- what the law's calls ask besides the world -/
def lE (s0 : State) (U : State) : Prop := nwC U ∧ xE s0 U
theorem CtX.law {s0 : State} {l : Launch} {D : va_G} {cl : List vw_C} {y : MethodName} {ws : List Cond} {rm : Room} {tys : List (ClassId × FieldType)} {av : List Value} {cs cs' : va_W} {C : String} (h : CtX (xE s0) l D cl y ws rm tys av cs cs' C) : CtX (lE s0) l D cl y ws rm tys av cs cs' C := fun sz =>
  (h sz).weak fun a U q => ⟨q.1, q.2.1, q.2.2.1, q.2.2.2.1, q.2.2.2.2.1, q.2.2.2.2.2.2⟩
theorem Ct.law {s0 : State} {l : Launch} {D : va_G} {cl : List vw_C} {y : MethodName} {ws : List Cond} {rm : Room} {tys : List (ClassId × FieldType)} {av : List Value} {cs cs' : va_W} {rv : Option Value} (h : Ct l D cl y ws rm tys av cs cs' rv) (h1 : rm.cells = 0) (h2 : rm.slots = 0) (hm : cs'.map (·.1) = cs.map (·.1)) : CtR (lE s0) l D cl y ws rm tys av cs (fun v w => v = rv ∧ w = cs') := fun sz => by
  rw [h1, h2]
  exact (h sz).weak (fun a U q => ⟨q.1, q.2.1, q.2.2.1, q.2.2.2.1, q.2.2.2.2.1⟩) (fun a st o t q h => ⟨⟨rv, cs', h.1.1, ⟨rfl, rfl⟩, h.1.2, ct_D (q.2.2.2.2.1.self) hm⟩, h.2⟩)
theorem CtE.law {s0 : State} {l : Launch} {D : va_G} {cl : List vw_C} {y : MethodName} {ws : List Cond} {rm : Room} {tys : List (ClassId × FieldType)} {av : List Value} {cs cs' : va_W} {rv : Option Value} (h : CtE nwF l D cl y ws rm tys av cs cs' rv) (h1 : rm.cells = 0) (h2 : rm.slots = 0) (hm : cs'.map (·.1) = cs.map (·.1)) : CtR (lE s0) l D cl y ws rm tys av cs (fun v w => v = rv ∧ w = cs') := fun sz => by
  rw [h1, h2]
  exact (h sz).weak (fun a U q => ⟨q.1, q.2.1, q.2.2.1, q.2.2.2.1, q.2.2.2.2.1, q.2.2.2.2.2.2.1⟩) (fun a st o t q h => ⟨⟨rv, cs', h.1.1, ⟨rfl, rfl⟩, h.1.2, ct_D (q.2.2.2.2.1.self) hm⟩, h.2⟩)
theorem CtR.law {s0 : State} {l : Launch} {D : va_G} {cl : List vw_C} {y : MethodName} {ws : List Cond} {rm : Room} {tys : List (ClassId × FieldType)} {av : List Value} {cs : va_W} {F : Option Value → va_W → Prop} (h : CtR nwN l D cl y ws rm tys av cs F) : CtR (lE s0) l D cl y ws rm tys av cs F := fun sz =>
  (h sz).weak (fun a U q => ⟨q.1, q.2.1, q.2.2.1, q.2.2.2.1, q.2.2.2.2.1, q.2.2.2.2.2.1.1⟩) (fun a st o t q h => h)
theorem CtR.mono {E : State → Prop} {l : Launch} {D : va_G} {cl : List vw_C} {y : MethodName} {ws : List Cond} {rm : Room} {tys : List (ClassId × FieldType)} {av : List Value} {cs : va_W} {F G : Option Value → va_W → Prop} (h : CtR E l D cl y ws rm tys av cs F) (hF : ∀ v w, F v w → G v w) : CtR E l D cl y ws rm tys av cs G := fun sz =>
  (h sz).weak (fun a U q => q) (fun a st o t q h => by
    obtain ⟨⟨rv, w, h1, h2, h3⟩, h4⟩ := h
    exact ⟨⟨rv, w, h1, hF _ _ h2, h3⟩, h4⟩)
theorem lE_same {s0 u U : State} (hv : u.vm = U.vm) (hh : u.heap = U.heap) (h : lE s0 u) : lE s0 U := ⟨nwC_same hv h.1, xE_same hv hh h.2⟩
theorem le_blind {s0 : State} {D : va_G} {cl : List vw_C} {tys : List (ClassId × FieldType)} (av : List Value) (cs : va_W) (sz : Nat) : FrameBlind (va_Pc av (ct_BE (lE s0) D cl tys cs sz)) := fun _ U _ _ q => by
  obtain ⟨q0, q1, qP, qK, qD, qE⟩ := q
  exact ⟨q0, q1, qP, va_K.moved (u := U) (Vm.Alike.refl U.vm) qK, qD, lE_same (u := U) rfl rfl qE⟩
theorem Met.ofWh {l : Launch} {y : MethodName} {ws ws' : List Cond} {rm : Room} {Pc : Array Value → State → Prop} {Qc : Array Value → State → Outcome → State → Prop} {mc ms : Nat} {free : Addr → Prop} {cc : ByteArray} {maxL : Nat} {ret : Option FieldType} {hs : List (Nat × Nat × Nat × Nat)}
    (hy : plainName y.cls = true) (hw : ws = Cond.codeWith y cc maxL ret hs :: ws')
    (body : ∀ p e s m args below meth c s₁, BodyLoose p l y (headSpec ws rm) cc maxL ret e s m args below meth c s₁ → c.maxLocals = maxL → c.exceptionTable.toList = tableOf hs → Pc args s →
      W p l e (headSpec ws rm).room s m args below meth c s.heap [] 0 0 (MQ below Qc args s mc ms free) (entryFrame m args maxL)) : Met l y ws rm Pc Qc mc ms free := by
  have his : ∀ (args : Array Value) (s : State) (m : MethodId), (headSpec ws rm).pre.before args s = true → s.methodNamed? y = some m → ∃ meth c, s.vm.method? m = some meth ∧ meth.code = some c ∧ c.code = cc ∧ c.maxLocals = maxL ∧ meth.sig.returnType = ret ∧ meth.locks = false ∧ c.exceptionTable.toList = tableOf hs := by
    intro args s m h hn
    obtain ⟨m', meth, c, h0, h1, h2, h3, h4, h5, h6, h7, -⟩ := Cond.codeWith_spec (atoms_spec (ws := ws) h (Cond.codeWith y cc maxL ret hs) (by rw [hw]; exact List.mem_cons_self))
    cases hn.symm.trans h0
    exact ⟨meth, c, h1, h2, h3, h4, h6, h7, by rw [← table_eq c.exceptionTable.toList, h5]⟩
  refine MetFree.of_bodyS (code := cc) (maxLocals := maxL) (ret := ret) hy (fun args s m h hn => ?_) (fun p e s m args below meth c s₁ B hml hP _ => ?_)
  · obtain ⟨meth, c, h1, h2, h3, h4, h5, h6, -⟩ := his args s m h hn
    exact ⟨meth, c, h1, h2, h3, h4, h5, h6⟩
  · have X0 := Stand.of_body B
    obtain ⟨meth', c', q1, q2, -, -, -, -, ht⟩ := his _ s m B.pre B.named
    cases X0.method.symm.trans q1
    cases X0.code.symm.trans q2
    obtain ⟨t, a1, o, b1, b2, b3⟩ := body p e s m args below meth c s₁ B hml ht hP s₁ (by rw [B.state]; rfl) X0
    exact ⟨t, o, a1, b1, b2, b3.1, b3.2⟩
section
variable {p : Program} {l : Launch} {e : Env} {R : Room} {s : State} {m : MethodId} {args : Array Value} {below : List Frame} {meth : Method} {c : Code} {H : Heap} {locs : List Loc} {cells slots : Nat} {Q : State → Prop}
variable {y : MethodName} {bytes cc : ByteArray} {maxL nL n index : Nat} {ret : Option FieldType} {ws : List Cond} {rm : Room} {Pc : Array Value → State → Prop} {Qc : Array Value → State → Outcome → State → Prop} {free : Addr → Prop} {Ts : List Cond} {own : String} {As rest : List Value} {g : JFrame} {hs : List (Nat × Nat × Nat × Nat)}
theorem va_runSW (S : CallFix p m c cc nL s args Ts own) (hM : Met l y ws rm Pc Qc rm.cells rm.slots free) (hR : rm.frames + 1 ≤ R.frames ∧ 8 + (maxL + 11) + rm.locals ≤ R.locals) (hws : ∀ w ∈ ws, ∀ (a' : Array Value) (U : State), s.WarmedH U.vm → w.before a' U = true) (hcw : Cond.codeWith y bytes maxL ret hs ∈ ws)
    (hini : (Cond.initialized y.cls).before args s = true) (hy : y.cls ≠ "java/lang/invoke/MethodHandle" ∧ y.cls ≠ "java/lang/invoke/VarHandle") (hlen : ∀ sig, parseMethodDescriptor y.desc = some sig → n = sig.parameters.length) (hlink : (Cond.methodLink own index y).before args s = true) (hstat : (Cond.static y).before args s = true) (hp : PreS s H Pc As)
    (hg : g.method = m) (hn : As.length = n) (hsize : g.locals.size = nL) (hstack : g.stack = As.reverse ++ rest) (hW : 2 * g.monitorRoom + (rest.map fun v => v.category).sum ≤ 8) (hdg : decode cc g.pc = .ok (.invokestatic index, 3)) (hf : cells + rm.cells ≤ R.cells ∧ slots + rm.slots ≤ R.slots) :
    va_Run p l e R s m args below meth c H locs cells slots rm.cells rm.slots g rest (Qc As.toArray) free := by
  have hK : Back l R p e below s args y 3 8 (PreOf R rm.cells rm.slots Pc) (PostOf Qc rm.cells rm.slots free) := by
    refine Back.of_freeWith (handlers := hs) (S := headSpec ws rm) (P := Pc) (K := fun _ _ _ _ _ => True) (Q := fun a st o t => Qc a st o t ∧ ∃ L, FrameEnd st o t L rm.cells rm.slots ∧ ∀ q ∈ L, free q.base) (bytes := bytes) (maxL := maxL) (ret := ret)
      (E := fun a st o t L k n => k = rm.cells ∧ n = rm.slots ∧ ∀ q ∈ L, free q.base) hM hR.1 hR.2 ?_ ?_ (fun _ _ _ _ _ _ _ _ _ => trivial) ?_ ?_
    · intro m meth c A a X hq
      exact ⟨atoms_intro fun w hw => hws w hw _ _ X.warmed, hws _ hcw _ _ X.warmed, word_at X.warmed (Or.inl (by first | rfl | simp [Cond.onTables, Cond.keeps, Cond.steady])) hini, hq.1, hq.2.1⟩
    · intro m meth c A a g mk X hq
      exact hp.1 _ _ _ _ hq.2.2
    · intro a st o t ⟨hq, L, hF, hL⟩
      exact ⟨L, _, _, hF, rfl, rfl, hL⟩
    · intro m meth c A a g mk v t L k n X hp hq hF ⟨e1, e2, hL⟩
      subst e1; subst e2
      exact ⟨g, mk, t, L, rfl, rfl, hq.1, rfl, hL, rfl, rfl⟩
  obtain ⟨hx, hb, hml, ho, -⟩ := S
  obtain ⟨mk, methM, cM, hnamed, hmethM, -, -, -, -, -, -, hsigM⟩ := Cond.codeWith_spec (hws _ hcw args s (State.WarmedH.refl s))
  have hstatic : methM.isStatic = true := Cond.static_spec hnamed hmethM hstat
  obtain ⟨kP, hkP, -⟩ := className_of_methodNamed hnamed
  have hinitP : kP.init = .initialized := Cond.initialized_spec (findClass_of_methodNamed hnamed) hkP hini
  intro T hT X
  obtain ⟨vm₁, X₁, hstep₁⟩ := X.invokestatic hx ho hlink hnamed hmethM hstatic hkP hinitP hy (g := g) hg (argsL := As) (rest := rest) (by rw [hn]; exact hlen _ hsigM) hstack (by rw [hb]; exact hdg)
  obtain ⟨v, ⟨U', l2, c2, s2⟩, X', ⟨g', mk', t, L, e1, e2, hq, h1, hL, h2, h3⟩, hsteps⟩ := hK m meth c ⟨T.setVm vm₁, locs, cells, slots⟩ { g with stack := rest } (.invokestatic index) mk As.toArray X₁ hg (hsize.trans hml.symm) (by rw [hb]; exact hdg) hW (X₁.named hnamed) ⟨hf.1, hf.2, hp.2 (T.setVm vm₁) hT X₁.warmed⟩
  dsimp only [Pt.U, Pt.locs, Pt.cells, Pt.slots] at X' e1 e2 h1 h2 h3 hsteps
  subst h1; subst h2; subst h3
  exact ⟨v, (T.setVm vm₁).calling g' mk' As.toArray, t, U', L, hT, X', hL, e1, e2, hq, fun tg h => hstep₁ _ fun acts => by rw [doInvoke_state]; exact hsteps.trans h⟩
variable {A : Nat → Prop} {H0 : Heap} {D : va_G} {cl : List vw_C} {tys : List (ClassId × FieldType)} {w0 cs : va_W}
theorem le_pre {s0 : State} (hP : va_P D cl (w0 ++ cs) H) (hD : va_D A (w0 ++ cs)) (hK : va_K D cl tys s) (hE : lE s0 s) (hH : ∀ q : Nat, q < s0.heap.size → H[q]? = s0.heap[q]?) (av : List Value) : ∀ U : State, U.heap = H → s.WarmedH U.vm → va_Pc av (ct_BE (lE s0) D cl tys cs H.size) av.toArray U := fun U hU hW => by
  obtain ⟨h1, h2, h3, h4, h5, h6⟩ := cx_pre hP hD hK hE.2.1 hE.2.2 hH av U hU hW
  exact ⟨h1, h2, h3, h4, h5, nwC_warm hW hE.1, h6⟩
end
/-- the room of a helper above its callee -/
abbrev rmH (r : Room) : Room := { frames := r.frames + 1, cells := 0 + r.cells, slots := 0 + r.slots, locals := 24 + r.locals }
