/-! methods that answer and make cells: contracts with a predicate of the new world; calls of such -/
def ct_QR (D : va_G) (cl : List vw_C) (A : Nat → Prop) (F : Option Value → va_W → Prop) : Array Value → State → Outcome → State → Prop := fun _ st oc t => (∃ (rv : Option Value) (ws : va_W), oc = .returned rv ∧ F rv ws ∧ va_P D cl ws t.heap ∧ va_D A ws) ∧ va_F A st t
def CtR (E : State → Prop) (l : Launch) (D : va_G) (cl : List vw_C) (y : MethodName) (ws : List Cond) (rm : Room) (tys : List (ClassId × FieldType)) (av : List Value) (cs : va_W) (F : Option Value → va_W → Prop) : Prop :=
  ∀ sz : Nat, Met l y ws rm (va_Pc av (ct_BE E D cl tys cs sz)) (ct_QR D cl (va_A cs sz) F) rm.cells rm.slots (va_A cs sz)
theorem fl_app : ∀ (as bs : List va_W), fl (as ++ bs) = fl as ++ fl bs := fun as bs => by
  rw [fl_eq, fl_eq, fl_eq, List.flatten_append]
section
variable {p : Program} {l : Launch} {e : Env} {R : Room} {s : State} {m : MethodId} {args : Array Value} {below : List Frame} {meth : Method} {c : Code} {H : Heap} {locs : List Loc} {cells slots : Nat} {Q : State → Prop}
variable {pc : Nat} {ls : Array Slot} {rest st0 : List Value} {A : Nat → Prop} {H0 : Heap} {D : va_G} {cl : List vw_C} {tys : List (ClassId × FieldType)} {w0 cs : va_W} {F : Option Value → va_W → Prop} {av : Array Value} {mc ms : Nat}
theorem cr_call (hr : va_Run p l e R s m args below meth c H locs cells slots mc ms (F0 m pc ls st0) rest (ct_QR D cl (va_A cs H.size) F av) (va_A cs H.size)) (hP : va_P D cl (w0 ++ cs) H) (hD : va_D A (w0 ++ cs)) (hS : va_S A H0 H locs) (hA : ∀ q, H0.size ≤ q → A q)
    (kk : ∀ (rv : Option Value) (ws : va_W) (H1 : Heap) (locs1 : List Loc), F rv ws → va_P D cl (w0 ++ ws) H1 → va_D A (w0 ++ ws) → va_S A H0 H1 locs1 → W p l e R s m args below meth c H1 locs1 (cells + mc) (slots + ms) Q (F0 m (pc + 3) ls (rv.toList ++ rest))) : W p l e R s m args below meth c H locs cells slots Q (F0 m pc ls st0) := by
  intro T hT X
  obtain ⟨hP0, hPc⟩ := app_P.mp hP
  obtain ⟨hD0, hDc, hap⟩ := app_D hD
  have hF : ∀ q, va_A cs H.size q → A q := fun q h => by
    rcases h with ⟨k, e, h⟩ | h
    · exact hDc.2 k (q, e) h
    · exact hA q (Nat.le_trans hS.1 h)
  have hN : ∀ q ∈ w0, q.1 < H.size ∧ ¬ va_A cs H.size q.1 := fun q hq => by
    have hlt := (va_P_iff.mp hP0 q hq).lt
    refine ⟨hlt, fun h => ?_⟩
    rcases h with ⟨k, e, h⟩ | h
    · exact hap q hq (q.1, e) (List.mem_of_getElem? h) rfl
    · omega
  obtain ⟨v, st₀, t, T', L, h0, X', hL, e1, e2, ⟨⟨rv, ws, hv, hf, hp, hd⟩, hz, hk⟩, st⟩ := hr T hT X
  cases hv
  rw [h0] at hz hk
  have hP1 : va_P D cl (w0 ++ ws) T'.heap := by
    rw [e1]
    refine app_P.mpr ⟨va_P_iff.mpr fun q hq => ?_, hp⟩
    obtain ⟨h1, h2⟩ := hN q hq
    exact (va_P_iff.mp hP0 q hq).kept (hk q.1 h1 h2)
  have hD1 : va_D A (w0 ++ ws) := by
    refine D_app hD0 (hd.weaken (fun k q _ h => hF q.1 h)) (fun q hq r hr9 heq => ?_)
    exact (hN q hq).2 (by rw [heq]; exact (va_D_iff.mp hd).2 r hr9)
  obtain ⟨t2, a1, b1⟩ := kk v ws T'.heap (locs ++ L) hf hP1 hD1
    ⟨Nat.le_trans hS.1 (by rw [e1]; exact hz), fun q h1 h2 => by rw [e1, hk q (Nat.lt_of_lt_of_le h1 hS.1) (fun z => h2 (hF q z))]; exact hS.2.1 q h1 h2, fun q hq => by
      rcases List.mem_append.mp hq with h | h
      · exact hS.2.2 q h
      · exact hF _ (hL q h)⟩ T' rfl X'
  exact ⟨t2, st t2 a1, b1⟩
variable {cc : ByteArray} {a : Nat} {ws wv : va_W}
theorem lx_aastS (hexec : p.tables.exec = Jvm.exec) (hb : c.code = cc) (hK : va_K D cl tys s) (hP : va_P D cl ws H) (hD : va_D A ws) (hS : va_S A H0 H locs) (hPv : va_P D cl wv H) (q0 t0 qk ci : Nat) {cA : ClassId} {r : vw_C} {n v i : Nat} {vs : List Value} {f : Nat → Option Nat} (ha : ws[q0]? = some (a, .inl (cA, n, .inr (.inr (.inr (.inr f)))))) (ht : tys[t0]? = some (cA, .object r.1)) (hv : wv[qk]? = some (v, .inr (ci, vs))) (hc : cl[ci]? = some r) (hn : n < 2147483648) (hi : i < n) (hdg : decode cc pc = .ok (.aastore, 1))
    (kk : ∀ (H1 : Heap) (locs1 : List Loc), va_P D cl (ws.set q0 (a, .inl (cA, n, .inr (.inr (.inr (.inr (va_up f i (some v)))))))) H1 → va_D A (ws.set q0 (a, .inl (cA, n, .inr (.inr (.inr (.inr (va_up f i (some v)))))))) → va_S A H0 H1 locs1 → W p l e R s m args below meth c H1 locs1 cells slots Q (F0 m (pc + 1) ls rest)) : W p l e R s m args below meth c H locs cells slots Q (F0 m pc ls (.ref v :: .int (nI i) :: .ref a :: rest)) := by
  have hci : (nI i).toNatClampNeg = i := nI_clamp (by omega)
  refine va_astqM hexec hb hK hP hD hS q0 t0 ha ht (va_rAny hK hPv hv hc vb_asgS) (vp_in_nI hi hn) hdg (fun H1 locs1 => ?_)
  rw [hci]
  exact kk H1 locs1
end
