/-! contracts with a premise on the tables that no list of words carries: the abstract methods of Family -/
def fam6 (a b c d e f : Nat) : Nat → Option Nat := fun i => match i with
  | 0 => some a
  | 1 => some b
  | 2 => some c
  | 3 => some d
  | 4 => some e
  | 5 => some f
  | _ => none
def nwF (U : State) : Prop := va_Nw (.declares yFA_write) U ∧ va_Nw (.declares yFA_length) U ∧ va_Nw (.declares yFA_read) U
theorem nwF_same {u U : State} (h : u.vm = U.vm) (hE : nwF u) : nwF U := ⟨va_Nw.same rfl h hE.1, va_Nw.same rfl h hE.2.1, va_Nw.same rfl h hE.2.2⟩
theorem nwF_warm {s U : State} (hW : s.WarmedH U.vm) (hE : nwF s) : nwF U := ⟨va_Nw.warmD hW hE.1, va_Nw.warmD hW hE.2.1, va_Nw.warmD hW hE.2.2⟩
theorem pl_FA_write : ∀ sig, parseMethodDescriptor yFA_write.desc = some sig → 2 = sig.parameters.length := fun sig h => by
  have h2 : (parseMethodDescriptor yFA_write.desc).map (fun d => d.parameters.length) = some 2 := by decide +kernel
  rw [h] at h2
  exact (Option.some.inj h2).symm
theorem pl_FA_read : ∀ sig, parseMethodDescriptor yFA_read.desc = some sig → 2 = sig.parameters.length := fun sig h => by
  have h2 : (parseMethodDescriptor yFA_read.desc).map (fun d => d.parameters.length) = some 2 := by decide +kernel
  rw [h] at h2
  exact (Option.some.inj h2).symm
theorem pl_FA_length : ∀ sig, parseMethodDescriptor yFA_length.desc = some sig → 1 = sig.parameters.length := fun sig h => by
  have h2 : (parseMethodDescriptor yFA_length.desc).map (fun d => d.parameters.length) = some 1 := by decide +kernel
  rw [h] at h2
  exact (Option.some.inj h2).symm
def ct_BE (E : State → Prop) (D : va_G) (cl : List vw_C) (tys : List (ClassId × FieldType)) (cs : va_W) (sz : Nat) : State → Prop := fun U => U.heap.size = sz ∧ va_P D cl cs U.heap ∧ va_K D cl tys U ∧ va_D (fun _ => True) cs ∧ E U
def CtE (E : State → Prop) (l : Launch) (D : va_G) (cl : List vw_C) (y : MethodName) (ws : List Cond) (rm : Room) (tys : List (ClassId × FieldType)) (av : List Value) (cs cs' : va_W) (rv : Option Value) : Prop :=
  ∀ sz : Nat, Met l y ws rm (va_Pc av (ct_BE E D cl tys cs sz)) (ct_Q D cl (va_A cs sz) cs' rv) 0 0 (va_A cs sz)
section
variable {s : State} {H : Heap} {A : Nat → Prop} {D : va_G} {cl : List vw_C} {tys : List (ClassId × FieldType)} {ws cs : va_W} {E : State → Prop}
theorem ct_blindE (hs : ∀ {u U : State}, u.vm = U.vm → E u → E U) (av : List Value) (cs : va_W) (sz : Nat) : FrameBlind (va_Pc av (ct_BE E D cl tys cs sz)) := fun _ U _ _ q => by
  obtain ⟨q0, q1, qP, qK, qD, qE⟩ := q
  exact ⟨q0, q1, qP, va_K.moved (u := U) (Vm.Alike.refl U.vm) qK, qD, hs (u := U) rfl qE⟩
theorem ct_preE (hw : ∀ {s U : State}, s.WarmedH U.vm → E s → E U) (hP : va_P D cl ws H) (hD : va_D A ws) (hK : va_K D cl tys s) (hE : E s) (is : List Nat) (hn : va_nd is = true) (hC : is.map (fun i => ws[i]?) = cs.map some) (av : List Value) : ∀ U : State, U.heap = H → s.WarmedH U.vm → va_Pc av (ct_BE E D cl tys cs H.size) av.toArray U := fun U hU hW => by
  obtain ⟨h1, h2, h3, h4, h5⟩ := ct_pre hP hD hK is hn hC av U hU hW
  exact ⟨h1, h2, h3, h4, h5, hw hW hE⟩
end
