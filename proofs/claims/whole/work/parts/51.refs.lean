/-! a reference stored into an array of its superclass -/
theorem sub_self (vm : Vm) {p : ClassId} {kp : Class} (h : vm.classes[p]? = some kp) : vm.isSubclassAux vm.classes.size p p = true := by
  have hlt : p < vm.classes.size := (Array.getElem?_eq_some_iff.mp h).1
  obtain ⟨n, hn⟩ : ∃ n, vm.classes.size = n + 1 := Nat.exists_eq_succ_of_ne_zero (Nat.ne_of_gt (Nat.lt_of_le_of_lt (Nat.zero_le _) hlt))
  rw [hn]
  simp [Vm.isSubclassAux]
theorem asg_super {args : Array Value} {s : State} {cls sup : String} {c p : ClassId} (hc : s.vm.findClass cls = some c) (hp : s.vm.findClass sup = some p) (h : (Cond.superclass cls sup).before args s = true) (hni : ∀ kp, s.vm.classes[p]? = some kp → kp.isInterface = false) : s.vm.assignable c p = true := by
  obtain ⟨p', k, kp, h1, h2, h3, h4, h5, h6, h7⟩ := Cond.superclass_spec hc h
  cases Option.some.inj (h1.symm.trans hp)
  have i7 := hni kp h3
  simp [Vm.assignable, Vm.assignableAux, h2, h3, h4, h5, h6, i7, Vm.isSubclass, Vm.isSubclassAux, sub_self _ h3]
section
variable {p : Program} {l : Launch} {e : Env} {R : Room} {s : State} {m : MethodId} {args : Array Value} {below : List Frame} {meth : Method} {c : Code} {H : Heap} {locs : List Loc} {cells slots : Nat} {Q : State → Prop}
variable {cc : ByteArray} {pc : Nat} {ls : Array Slot} {rest : List Value}
variable {D : va_G} {cl : List vw_C} {A : Nat → Prop} {a : Nat} {tys : List (ClassId × FieldType)} {ws wv : va_W} {H0 : Heap}
theorem lx_aast (hexec : p.tables.exec = Jvm.exec) (hb : c.code = cc) (hK : va_K D cl tys s) (hP : va_P D cl ws H) (hD : va_D A ws) (hS : va_S A H0 H locs) (hPv : va_P D cl wv H) (q0 t0 qk ci : Nat) {cA : ClassId} {r : vw_C} {sup : String} {n v i : Nat} {vs : List Value} {f : Nat → Option Nat} (ha : ws[q0]? = some (a, .inl (cA, n, .inr (.inr (.inr (.inr f)))))) (ht : tys[t0]? = some (cA, .object sup)) (hv : wv[qk]? = some (v, .inr (ci, vs))) (hc : cl[ci]? = some r) (hsup : (Cond.superclass r.1 sup).before args s = true) (hni : ∀ pc kp, s.vm.findClass sup = some pc → s.vm.classes[pc]? = some kp → kp.isInterface = false) (hn : n < 2147483648) (hi : i < n) (hdg : decode cc pc = .ok (.aastore, 1))
    (kk : ∀ (H1 : Heap) (locs1 : List Loc), va_P D cl (ws.set q0 (a, .inl (cA, n, .inr (.inr (.inr (.inr (va_up f i (some v)))))))) H1 → va_D A (ws.set q0 (a, .inl (cA, n, .inr (.inr (.inr (.inr (va_up f i (some v)))))))) → va_S A H0 H1 locs1 → W p l e R s m args below meth c H1 locs1 cells slots Q (F0 m (pc + 1) ls rest)) : W p l e R s m args below meth c H locs cells slots Q (F0 m pc ls (.ref v :: .int (nI i) :: .ref a :: rest)) := by
  have hci : (nI i).toNatClampNeg = i := nI_clamp (by omega)
  have hin : vp_in (nI i) n := vp_in_nI hi hn
  have hlt : (nI i).toNatClampNeg < n := by rw [hci]; exact hi
  have h0 : ¬ nI i < 0 := fun q => hin (Or.inl q)
  obtain ⟨r', hr', cellV, g1, g2, g3, -⟩ := hPv qk _ hv
  have hcls := (hK.1 ci r hc).2
  obtain ⟨kA, comp, k1, k2, k3, -⟩ := (hK.2 t0 _ ht).2
  obtain ⟨p', k, kp, s1, s2, s3, -⟩ := Cond.superclass_spec hcls.1 hsup
  cases Option.some.inj (s1.symm.trans k3)
  obtain ⟨kC, hkC, -⟩ := hcls.2
  refine W.aast hexec hb (hP q0 _ ha) (fun q h => by cases h) (fun h => by cases h) k1 k2 rfl s3 ⟨h0, by show _ < (arrV _ _ _).slots.size; rw [arrV_size]; exact hlt⟩ g1 (fun q h => by rw [g3] at h; cases h) (by rw [g2]; exact hkC) (by rw [g2]; exact asg_super hcls.1 s1 hsup (fun kp h => hni _ kp s1 h)) rfl rfl hdg fun H1 e z oq => ?_
  refine kk H1 _ (hP.set hD ha ?_ oq) (hD.set ha) (hS.put z oq (hD.2 q0 _ ha))
  show H1[a]? = some (vp_cell _ _)
  rw [e]
  rw [vp_cell_q, vp_cell_q, arrV_store, hci]
  congr 2
  funext q
  by_cases hq : q = i
  · subst hq
    simp [updV, va_up, va_rf]
  · simp [updV, va_up, hq]
end
