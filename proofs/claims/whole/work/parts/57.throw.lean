/-! throwing: the walk is rooted anew at the state with the heap as it stands; then 'new; dup; ldc; invokespecial; athrow' -/
def xs_R (R : Room) (cells slots : Nat) : Room := { R with cells := R.cells - cells, slots := R.slots - slots }
def xs_s (s : State) (T : State) : State := { s with heap := T.heap, slotsUsed := T.slotsUsed }
section
variable {p : Program} {l : Launch} {e : Env} {R : Room} {s : State} {m : MethodId} {args : Array Value} {below : List Frame} {meth : Method} {c : Code} {T : State} {H : Heap} {locs : List Loc} {cells slots : Nat}
theorem xs_base (X : Stand p l e R s m args below meth c T locs cells slots) (hc : cells ≤ R.cells) (hs : slots ≤ R.slots) : Stand p l e (xs_R R cells slots) (xs_s s T) m args below meth c T [] 0 0 := by
  have hroom : (xs_s s T).hasRoom e.platform (xs_R R cells slots) = true := by
    have h := X.room
    have hb := X.book
    have h1 := X.heapSize
    have h2 := X.used
    simp only [State.hasRoom, Bool.and_eq_true, decide_eq_true_eq] at h ⊢
    obtain ⟨⟨⟨⟨a1, a2⟩, a3⟩, a4⟩, -⟩ := h
    refine ⟨⟨⟨⟨a1, a2⟩, ?_⟩, ?_⟩, hb⟩
    · show T.heap.size + (R.cells - cells) ≤ _
      omega
    · show T.slotsUsed + (R.slots - slots) ≤ _
      omega
  have hsame : (xs_s s T).sameButNew (T.setVm (xs_s s T).vm) [] 0 0 := by
    refine ⟨?_, Nat.le_refl _, Nat.le_refl _, ?_, ?_, ?_⟩
    · exact X.same.1
    · show T.slotsUsed = T.slotsUsed + ((T.heap.toList.drop T.heap.size).map (·.slots.size)).sum
      rw [List.drop_of_length_le (by simp)]
      rfl
    · show ((T.heap.toList.drop T.heap.size).map (·.slots.size)).sum ≤ 0
      rw [List.drop_of_length_le (by simp)]
      exact Nat.le_refl 0
    · intro a cc h
      exact ⟨cc, h, rfl, rfl, fun _ _ => rfl⟩
  exact ⟨X.admits, X.cas, X.clock, X.frames, hroom, X.hears, X.method, X.code, X.here, X.tail, X.warmed, X.limits, X.bytes, hsame⟩
theorem xs_end {t : State} (X : Stand p l e R s m args below meth c T locs cells slots) {k n : Nat} (h : (xs_s s T).sameButNew ({ t with vm := (xs_s s T).vm } : State) [] k n) : s.sameButNew ({ t with vm := s.vm } : State) locs (cells + k) (slots + n) := by
  have h1 : (T.setVm s.vm).sameButNew ({ t with vm := s.vm } : State) [] k n := by
    refine ⟨?_, h.2⟩
    have e1 := h.1
    have e2 := X.same.1
    have e3 : ({ t with vm := s.vm } : State) = { (xs_s s T).setFrames t.frames with heap := t.heap, slotsUsed := t.slotsUsed } := e1
    show ({ t with vm := s.vm } : State) = { (T.setVm s.vm).setFrames t.frames with heap := t.heap, slotsUsed := t.slotsUsed }
    rw [e3, e2]
    show _ = ({ ((s.setFrames (T.setVm s.vm).frames).setFrames t.frames) with heap := t.heap, slotsUsed := t.slotsUsed } : State)
    rw [State.setFrames_setFrames]
    rfl
  have h2 := X.same.trans h1
  rw [List.append_nil] at h2
  exact h2
theorem xs_keep {s t : State} {k n : Nat} (h : s.sameButNew t [] k n) {q : Nat} {cell : Cell} (hq : s.heap[q]? = some cell) : t.heap[q]? = some cell := by
  obtain ⟨c', h1, h2, h3, h4⟩ := h.2.2.2.2.2 q cell hq
  have e : c'.slots = cell.slots := by
    apply Array.ext_getElem?
    intro i
    exact h4 i (by simp)
  rw [h1, h2, e]
end
/-! the base: the state s0 at the law's start; every later state's tables are warmer, and s0's cells stand as they stood -/
def xB (s0 : State) (U : State) : Prop := s0.WarmedH U.vm ∧ ∀ q : Nat, q < s0.heap.size → U.heap[q]? = s0.heap[q]?
theorem xs_stat {C f d : String} {A A' : Array Value} {u U : State} (hv : U.vm = u.vm) (hh : ∀ q : Nat, q < u.heap.size → U.heap[q]? = u.heap[q]?) (h : (Cond.isRef (.static C f d)).before A u = true) : (Cond.isRef (.static C f d)).before A' U = true := by
  have hf : U.fieldFound? C f d = u.fieldFound? C f d := by
    unfold State.fieldFound?
    rw [hv]
  simp only [Cond.before, Cond.holds, Cond.value, Term.eval, State.fieldNamed?, hf, Option.bind_eq_bind] at h ⊢
  cases h1 : u.fieldFound? C f d with
  | none => rw [h1] at h; exact h
  | some x =>
    obtain ⟨c, k, i, fd⟩ := x
    rw [h1] at h
    simp only [Option.bind_some] at h ⊢
    by_cases h2 : (fd.isStatic == true) = true
    · simp only [h2, if_true, Option.pure_def, Option.bind_some] at h ⊢
      cases h3 : k.statics with
      | none => rw [h3] at h; simp at h
      | some a =>
        rw [h3] at h
        simp only [Option.bind_some] at h ⊢
        cases h4 : u.heap[a]? with
        | none => rw [h4] at h; simp at h
        | some cell =>
          have h5 : U.heap[a]? = some cell := by rw [hh a (Array.getElem?_eq_some_iff.mp h4).1]; exact h4
          rw [h4] at h
          rw [h5]
          exact h
    · simp [h2] at h
theorem xs_lays {C f d : String} {A A' : Array Value} {u U : State} (hv : U.vm = u.vm) (hh : ∀ q : Nat, q < u.heap.size → U.heap[q]? = u.heap[q]?) (h : (Cond.laysStatic C f d).before A u = true) : (Cond.laysStatic C f d).before A' U = true := by
  have hf : U.fieldFound? C f d = u.fieldFound? C f d := by
    unfold State.fieldFound?
    rw [hv]
  simp only [Cond.before, Cond.holds, Cond.value, hf, hv] at h ⊢
  cases h0 : u.vm.findClass C with
  | none => rw [h0] at h; exact h
  | some c0 =>
    rw [h0] at h
    cases h1 : u.fieldFound? C f d with
    | none => rw [h1] at h; exact h
    | some x =>
      obtain ⟨c, k, i, fd⟩ := x
      rw [h1] at h
      dsimp only at h ⊢
      cases h3 : k.statics with
      | none => rw [h3] at h; simp at h
      | some a =>
        rw [h3] at h
        simp only [Option.bind_some] at h ⊢
        cases h4 : u.heap[a]? with
        | none => rw [h4] at h; simp at h
        | some cell =>
          have h5 : U.heap[a]? = some cell := by rw [hh a (Array.getElem?_eq_some_iff.mp h4).1]; exact h4
          rw [h4] at h
          rw [h5]
          exact h
def xs_isStat : Cond → Bool
  | .isRef (.static ..) => true
  | .laysStatic .. => true
  | _ => false
def xs_g (c : Cond) : Bool := c.keepsFace && (c.onTables || xs_isStat c)
theorem xs_word {s0 U : State} (hB : xB s0 U) {c : Cond} (hg : xs_g c = true) {A A' : Array Value} (h : c.before A s0 = true) : c.before A' U = true := by
  simp only [xs_g, Bool.and_eq_true, Bool.or_eq_true] at hg
  have h1 : c.before A (s0.setVm U.vm) = true := Cond.rides hB.1.wide hg.1 h
  rcases hg.2 with h2 | h2
  · have h3 := Cond.onTables_vm (A := A) (A' := A') (U := s0) (U' := U) U.vm c h2
    rw [State.setVm_self] at h3
    rw [← h3]
    exact h1
  · cases c with
    | isRef t => cases t with
      | static C f d => exact xs_stat (u := s0.setVm U.vm) (U := U) rfl (fun q hq => hB.2 q hq) h1
      | _ => cases h2
    | laysStatic C f d => exact xs_lays (u := s0.setVm U.vm) (U := U) rfl (fun q hq => hB.2 q hq) h1
    | _ => cases h2
def MQX (below : List Frame) (Qc : Array Value → State → Nat → State → Prop) (a : Array Value) (s : State) (mc ms : Nat) (free : Addr → Prop) : State → Prop := fun t =>
  ∃ x : Nat, t.status = .running ∧ Ended t below (.threw x) ∧ Qc a s x t ∧ s.WarmedH t.vm ∧ ∃ L, s.sameButNew ({ t with vm := s.vm } : State) L mc ms ∧ ∀ q ∈ L, free q.base
/-- the class that is thrown, and its words at the base -/
def xs_own (own : String) (ic ix : Nat) (C : String) : List Cond := Bundle.ownAtoms own ic C ["java/lang/RuntimeException", "java/lang/Exception"] ++ [.classLink own ix C, .initialized C]
def xs_isX (C : String) (x : Nat) (t : State) : Prop := ∃ ce : Cell, t.heap[x]? = some ce ∧ t.vm.findClass C = some ce.cls ∧ ce.vm.isStatics = false
section
variable {p : Program} {l : Launch} {e : Env} {R : Room} {s : State} {m : MethodId} {args : Array Value} {below : List Frame} {meth : Method} {c : Code} {H : Heap} {locs : List Loc} {cells slots : Nat}
variable {cc : ByteArray} {pc : Nat} {ls : Array Slot} {rest : List Value}
set_option maxHeartbeats 1000000 in
theorem lx_throw (hexec : p.tables.exec = Jvm.exec) (hb : c.code = cc) (hl : l.stackTraces = false) (hlocks : meth.locks = false) (hml : c.maxLocals = ls.size) {own C tx : String} {ic ix k sa : Nat} (hown : s.vm.findClass own = some m.cls)
    {s0 : State} {A0 : Array Value} (hB : s0.WarmedH s.vm) (hH : ∀ q : Nat, q < s0.heap.size → H[q]? = s0.heap[q]?) (h0 : ∀ w ∈ xs_own own ic ix C, w.before A0 s0 = true) (hg : (xs_own own ic ix C).all xs_g = true) (hfit : Bundle.fit C = true) (hst : vk_R own k tx sa s)
    (hcells : cells + 1 ≤ R.cells) (hslots : slots + 6 ≤ R.slots) (hframes : 5 < R.frames) (hlocals : (rest.map fun v => v.category).sum + 82 ≤ R.locals) (hout : ∀ x ∈ c.exceptionTable.toList, covers x (pc + 9) = false)
    (hd0 : decode cc pc = .ok (.new ix, 3)) (hd3 : decode cc (pc + 3) = .ok (.dup, 1)) (hd4 : decode cc (pc + 4) = .ok (.ldc k, 2)) (hd6 : decode cc (pc + 6) = .ok (.invokespecial ic, 3)) (hd9 : decode cc (pc + 9) = .ok (.athrow, 1))
    {Qc : Array Value → State → Nat → State → Prop} {free : Addr → Prop} (hf : ∀ q ∈ locs, free q.base)
    (hq : ∀ (x : Nat) (t : State), H.size ≤ x → xs_isX C x t → (∀ q : Nat, q < H.size → t.heap[q]? = H[q]?) → H.size ≤ t.heap.size → s.WarmedH t.vm → Qc args s x t) :
    W p l e R s m args below meth c H locs cells slots (MQX below Qc args s (cells + 1) (slots + 6) free) (F0 m pc ls rest) := by
  intro T hT X
  have Y := xs_base X (by omega) (by omega)
  have htr : e.platform.stackTraces = false := by rw [Example.NoTraceControls.admits_follows X.admits]; exact hl
  have hB' : xB s0 (xs_s s T) := ⟨hB, fun q hq => by show T.heap[q]? = _; rw [hT]; exact hH q hq⟩
  have hw : ∀ w ∈ xs_own own ic ix C, w.before args (xs_s s T) = true := fun w h => xs_word hB' (List.all_eq_true.mp hg w h) (h0 w h)
  have hd0' : decode c.code pc = .ok (.new ix, 3) := by rw [hb]; exact hd0
  obtain ⟨vm₁, cX, kX, hfX, hkX, -, -, Y1, st1⟩ := Y.newCold hexec (own := own) (C := C) (index := ix) (n := 6) hown (hw _ (by simp [xs_own])) (hw _ (by simp [xs_own, Bundle.ownAtoms])) (hw _ (by simp [xs_own]))
    (g := F0 m pc ls rest) rfl hd0' (by show 0 + 1 ≤ R.cells - cells; omega) (by show 0 + 6 ≤ R.slots - slots; omega)
  generalize hT1 : (T.setVm vm₁).pushCell { cls := cX, slots := kX.instanceTypes.map defaultValue, vm := .none } = T1 at Y1 st1
  have hcell : T1.heap[T.heap.size]? = some (freshCell cX kX) := by rw [← hT1]; exact State.heap_pushCell_size _ _
  have hst' : vk_R own k tx sa (xs_s s T) := vk_R.same rfl hst
  obtain ⟨U, hsteps, hrun, hend, hW, hsame, ce, hce, K⟩ := Y1.ctorThrowS hexec htr (own := own) (cls := C) (names := ["java/lang/RuntimeException", "java/lang/Exception"]) (ic := ic) hown hfit (by decide +kernel)
    (fun w h => hw w (List.mem_append_left _ h)) (fun y hy => by cases hy) hfX hkX hcell (Nat.le_refl _) (msg := .ref sa) rfl
    (g := F0 m (pc + 6) ls (.ref sa :: .ref T.heap.size :: .ref T.heap.size :: rest)) rfl (by show ls.size = _; rw [hml]) rfl rfl (rest := rest) rfl
    (by rw [hb]; exact hd6) (by rw [hb]; exact hd9) hout (by show 2 + 3 < R.frames; omega) (by
      show 2 * 0 + (1 + (rest.map fun v => v.category).sum) + (13 * (2 + 1) + 42) ≤ R.locals
      omega)
  have hkeep : ∀ q : Nat, q < H.size → U.heap[q]? = H[q]? := fun q hq => by
    have h1 : q < T.heap.size := by rw [hT]; exact hq
    have h2 : (xs_s s T).heap[q]? = some T.heap[q] := by show T.heap[q]? = _; rw [Array.getElem?_eq_getElem h1]
    have h3 := xs_keep hsame h2
    have h4 : U.heap[q]? = some T.heap[q] := h3
    rw [h4, ← hT, Array.getElem?_eq_getElem h1]
  have hsz : H.size ≤ U.heap.size := by
    have h1 := hsame.2.1
    have h2 : T.heap.size ≤ U.heap.size := h1
    rw [← hT]; exact h2
  refine ⟨U, st1 _ ?_, T.heap.size, hrun, hend, hq _ _ (by rw [hT]; exact Nat.le_refl _) ⟨ce, hce, by rw [hW.alike.findClass]; exact K.cls, by rw [K.vm]; rfl⟩ hkeep hsz hW, hW, locs, xs_end X hsame, hf⟩
  show Steps p.tables e below (T1.setTop (F0 m (pc + 3) ls (.ref T.heap.size :: rest))) _
  have hdup : decode c.code (pc + 3) = .ok (.dup, 1) := by rw [hb]; exact hd3
  jvm_step Y1.here [Y1.here.top, hexec, hdup, Value.category]
  exact Y1.ldcString hexec hown (text := tx) (a := sa) hst'.1 hst'.2 (g := F0 m (pc + 4) ls (.ref T.heap.size :: .ref T.heap.size :: rest)) rfl (by rw [hb]; exact hd4) _ hsteps
end
