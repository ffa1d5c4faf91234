/-! a reference stored into an array of a wider type; the new array of references; blocks in another order -/
theorem ra_oneO {D : va_G} {cl : List vw_C} {tys : List (ClassId × FieldType)} {s : State} {cA cB : ClassId} {C : String} {i j : Nat} (hK : va_K D cl tys s) (hi : tys[i]? = some (cA, .object C)) (hj : tys[j]? = some (cB, .object C)) : cA = cB := by
  obtain ⟨-, -, -, -, -, h1⟩ := (hK.2 i _ hi).2
  obtain ⟨-, -, -, -, -, h2⟩ := (hK.2 j _ hj).2
  exact Option.some.inj (h1.symm.trans h2)
theorem perm_P {D : va_G} {cl : List vw_C} {bs cs : List va_W} {H : Heap} (hP : va_P D cl (fl bs) H) (is : List Nat) (hC : is.map (fun i => bs[i]?) = cs.map some) : va_P D cl (fl cs) H := by
  rw [va_P_iff]
  intro q hq
  obtain ⟨b, hb, hq⟩ := fl_mem.mp hq
  obtain ⟨j, hj⟩ := List.getElem?_of_mem hb
  obtain ⟨i, hi, hbi⟩ := map_at hC hj
  exact va_P_iff.mp (pB hP i hbi) q hq
section
variable {p : Program} {l : Launch} {e : Env} {R : Room} {s : State} {m : MethodId} {args : Array Value} {below : List Frame} {meth : Method} {c : Code} {H : Heap} {locs : List Loc} {cells slots : Nat} {Q : State → Prop}
variable {cc : ByteArray} {pc : Nat} {ls : Array Slot} {rest : List Value}
variable {D : va_G} {cl : List vw_C} {A : Nat → Prop} {a : Nat} {tys : List (ClassId × FieldType)} {ws wv : va_W} {H0 : Heap}
theorem lx_aast (hexec : p.tables.exec = Jvm.exec) (hb : c.code = cc) (hK : va_K D cl tys s) (hP : va_P D cl ws H) (hD : va_D A ws) (hS : va_S A H0 H locs) (hPv : va_P D cl wv H) (q0 t0 qk ci : Nat) {cA : ClassId} {r : vw_C} {sup : String} {n v i : Nat} {vs : List Value} {f : Nat → Option Nat} (ha : ws[q0]? = some (a, .inl (cA, n, .inr (.inr (.inr (.inr f)))))) (ht : tys[t0]? = some (cA, .object sup)) (hv : wv[qk]? = some (v, .inr (ci, vs))) (hc : cl[ci]? = some r) (hca : va_Nw (.castable r.1 sup) s) (hn : n < 2147483648) (hi : i < n) (hdg : decode cc pc = .ok (.aastore, 1))
    (kk : ∀ (H1 : Heap) (locs1 : List Loc), va_P D cl (ws.set q0 (a, .inl (cA, n, .inr (.inr (.inr (.inr (va_up f i (some v)))))))) H1 → va_D A (ws.set q0 (a, .inl (cA, n, .inr (.inr (.inr (.inr (va_up f i (some v)))))))) → va_S A H0 H1 locs1 → W p l e R s m args below meth c H1 locs1 cells slots Q (F0 m (pc + 1) ls rest)) : W p l e R s m args below meth c H locs cells slots Q (F0 m pc ls (.ref v :: .int (nI i) :: .ref a :: rest)) := by
  have hci : (nI i).toNatClampNeg = i := nI_clamp (by omega)
  refine va_astqM hexec hb hK hP hD hS q0 t0 ha ht (va_rAny hK hPv hv hc (vb_asgC hca)) (vp_in_nI hi hn) hdg (fun H1 locs1 => ?_)
  rw [hci]
  exact kk H1 locs1
theorem lx_newq (hexec : p.tables.exec = Jvm.exec) (hb : c.code = cc) {own C : String} {index : Nat} (hown : s.vm.findClass own = some m.cls) (hclink : (Cond.classLink own index C).before args s = true) (hover : va_AO C s) (t0 : Nat) {cA : ClassId} (ht : tys[t0]? = some (cA, .object C)) (hK : va_K D cl tys s) (hP : va_P D cl ws H) (hD : va_D A ws) (hS : va_S A H0 H locs) (hA : ∀ q, H0.size ≤ q → A q)
    {N : Nat} (hN : N < 100000000) (hcells : cells + 1 ≤ R.cells) (hslots : slots + N ≤ R.slots) (hdg : decode cc pc = .ok (.anewarray index, 3))
    (kk : ∀ (q : Nat) (H1 : Heap), va_P D cl (ws ++ [(q, .inl (cA, N, .inr (.inr (.inr (.inr (fun _ => none))))))]) H1 → va_D A (ws ++ [(q, .inl (cA, N, .inr (.inr (.inr (.inr (fun _ => none))))))]) → va_S A H0 H1 locs →
      W p l e R s m args below meth c H1 locs (cells + 1) (slots + N) Q (F0 m (pc + 3) ls (.ref q :: rest))) : W p l e R s m args below meth c H locs cells slots Q (F0 m pc ls (.int (nI N) :: rest)) := by
  refine va_newq hexec hb hown hclink hover hK hP hD hS hA (N' := N) (nI_pos (by omega)) (nI_clamp (by omega)) (by omega) hcells hslots hdg (fun q cB H1 hK1 hP1 hD1 hS1 => ?_)
  have hlt : t0 < tys.length := (List.getElem?_eq_some_iff.mp ht).1
  have e1 : (tys ++ [(cB, FieldType.object C)])[t0]? = some (cA, .object C) := by rw [List.getElem?_append_left hlt]; exact ht
  have e2 : (tys ++ [(cB, FieldType.object C)])[tys.length]? = some (cB, .object C) := by simp
  obtain rfl := ra_oneO hK1 e1 e2
  exact kk q H1 hP1 hD1 hS1
end
/-- what CatalanWeb() asks of the tables beyond the words -/
def nwC (U : State) : Prop := nwN U ∧ aoI U ∧ va_AO RFA U ∧ va_AO RFG U ∧ ∀ C ∈ [RBR, RBT, RPT, RTR, RPA, RPE], va_Nw (.castable C RFA) U
