/-! methods that make cells: the new addresses come as a function -/
def ct_QN (D : va_G) (cl : List vw_C) (A : Nat → Prop) (cs' : (Nat → Nat) → va_W) : Array Value → State → Outcome → State → Prop := fun _ st oc t => (∃ g : Nat → Nat, oc = .returned none ∧ va_P D cl (cs' g) t.heap ∧ va_D A (cs' g)) ∧ va_F A st t
def CtN (E : State → Prop) (l : Launch) (D : va_G) (cl : List vw_C) (y : MethodName) (ws : List Cond) (rm : Room) (tys : List (ClassId × FieldType)) (av : List Value) (cs : va_W) (cs' : (Nat → Nat) → va_W) : Prop :=
  ∀ sz : Nat, Met l y ws rm (va_Pc av (ct_BE E D cl tys cs sz)) (ct_QN D cl (va_A cs sz) cs') rm.cells rm.slots (va_A cs sz)
def noE (_ : State) : Prop := True
theorem ra_one {D : va_G} {cl : List vw_C} {tys : List (ClassId × FieldType)} {s : State} {cA cB : ClassId} {ty : FieldType} {i j : Nat} (hK : va_K D cl tys s) (hi : tys[i]? = some (cA, ty)) (hj : tys[j]? = some (cB, ty)) (hn : ∀ C, ty ≠ .object C) : cA = cB := by
  have h1 := (hK.2 i _ hi).2
  have h2 := (hK.2 j _ hj).2
  cases ty with
  | object C => exact absurd rfl (hn C)
  | _ => exact Option.some.inj (h1.symm.trans h2)
section
variable {p : Program} {l : Launch} {e : Env} {R : Room} {s : State} {m : MethodId} {args : Array Value} {below : List Frame} {meth : Method} {c : Code} {H : Heap} {locs : List Loc} {cells slots : Nat} {Q : State → Prop}
variable {cc : ByteArray} {pc : Nat} {ls : Array Slot} {rest : List Value}
variable {D : va_G} {cl : List vw_C} {A : Nat → Prop} {a : Nat} {tys : List (ClassId × FieldType)} {ws : va_W} {H0 : Heap}
theorem lx_newa (hexec : p.tables.exec = Jvm.exec) (hb : c.code = cc) (harr : (Cond.arrayClass .int).before args s = true) (t0 : Nat) {cA : ClassId} (ht : tys[t0]? = some (cA, .int)) (hK : va_K D cl tys s) (hP : va_P D cl ws H) (hD : va_D A ws) (hS : va_S A H0 H locs) (hA : ∀ q, H0.size ≤ q → A q)
    {N : Nat} (hN : N < 100000000) (hcells : cells + 1 ≤ R.cells) (hslots : slots + N ≤ R.slots) (hdg : decode cc pc = .ok (.newarray .int, 2))
    (kk : ∀ (q : Nat) (H1 : Heap), va_P D cl (ws ++ [(q, .inl (cA, N, .inl (ar zf 0)))]) H1 → va_D A (ws ++ [(q, .inl (cA, N, .inl (ar zf 0)))]) → va_S A H0 H1 locs →
      W p l e R s m args below meth c H1 locs (cells + 1) (slots + N) Q (F0 m (pc + 2) ls (.ref q :: rest))) : W p l e R s m args below meth c H locs cells slots Q (F0 m pc ls (.int (nI N) :: rest)) := by
  refine va_newa hexec hb (atype := .int) (ty := .int) harr rfl hK hP hD hS hA (a0 := (N, .inl (ar zf 0))) (N' := N) (fun cB => ?_) (nI_pos (by omega)) (nI_clamp (by omega)) (by show N * 4 ≤ _; omega) hcells hslots hdg (fun q cB H1 hK1 hP1 hD1 hS1 => ?_)
  · rw [ar_0]
    rfl
  · have hlt : t0 < tys.length := (List.getElem?_eq_some_iff.mp ht).1
    have e1 : (tys ++ [(cB, FieldType.int)])[t0]? = some (cA, .int) := by rw [List.getElem?_append_left hlt]; exact ht
    have e2 : (tys ++ [(cB, FieldType.int)])[tys.length]? = some (cB, .int) := by simp
    obtain rfl := ra_one hK1 e1 e2 (fun C h => by cases h)
    exact kk q H1 hP1 hD1 hS1
theorem lx_newl (hexec : p.tables.exec = Jvm.exec) (hb : c.code = cc) (harr : (Cond.arrayClass .long).before args s = true) (t0 : Nat) {cA : ClassId} (ht : tys[t0]? = some (cA, .long)) (hK : va_K D cl tys s) (hP : va_P D cl ws H) (hD : va_D A ws) (hS : va_S A H0 H locs) (hA : ∀ q, H0.size ≤ q → A q)
    {N : Nat} (hN : N < 50000000) (hcells : cells + 1 ≤ R.cells) (hslots : slots + N ≤ R.slots) (hdg : decode cc pc = .ok (.newarray .long, 2))
    (kk : ∀ (q : Nat) (H1 : Heap), va_P D cl (ws ++ [(q, .inl (cA, N, .inr (.inl (arL (fun _ => 0) 0))))]) H1 → va_D A (ws ++ [(q, .inl (cA, N, .inr (.inl (arL (fun _ => 0) 0))))]) → va_S A H0 H1 locs →
      W p l e R s m args below meth c H1 locs (cells + 1) (slots + N) Q (F0 m (pc + 2) ls (.ref q :: rest))) : W p l e R s m args below meth c H locs cells slots Q (F0 m pc ls (.int (nI N) :: rest)) := by
  refine va_newa hexec hb (atype := .long) (ty := .long) harr rfl hK hP hD hS hA (a0 := (N, .inr (.inl (arL (fun _ => 0) 0)))) (N' := N) (fun cB => ?_) (nI_pos (by omega)) (nI_clamp (by omega)) (by show N * 8 ≤ _; omega) hcells hslots hdg (fun q cB H1 hK1 hP1 hD1 hS1 => ?_)
  · rw [arL_0]
    rfl
  · have hlt : t0 < tys.length := (List.getElem?_eq_some_iff.mp ht).1
    have e1 : (tys ++ [(cB, FieldType.long)])[t0]? = some (cA, .long) := by rw [List.getElem?_append_left hlt]; exact ht
    have e2 : (tys ++ [(cB, FieldType.long)])[tys.length]? = some (cB, .long) := by simp
    obtain rfl := ra_one hK1 e1 e2 (fun C h => by cases h)
    exact kk q H1 hP1 hD1 hS1
end
