/-! worlds in blocks that grow -/
theorem fl_mem {bs : List va_W} {q : Nat × va_E} : q ∈ fl bs ↔ ∃ b ∈ bs, q ∈ b := by
  rw [fl_eq]
  exact List.mem_flatten
theorem fl_snoc (bs : List va_W) (b : va_W) : fl (bs ++ [b]) = fl bs ++ b := by
  rw [fl_eq, fl_eq, List.flatten_append]
  show bs.flatten ++ (b ++ []) = _
  rw [List.append_nil]
theorem app_P {D : va_G} {cl : List vw_C} {w1 w2 : va_W} {H : Heap} : va_P D cl (w1 ++ w2) H ↔ va_P D cl w1 H ∧ va_P D cl w2 H := by
  rw [va_P_iff, va_P_iff, va_P_iff]
  exact ⟨fun h => ⟨fun q hq => h q (List.mem_append_left _ hq), fun q hq => h q (List.mem_append_right _ hq)⟩, fun h q hq => (List.mem_append.mp hq).elim (h.1 q) (h.2 q)⟩
theorem app_D {A : Nat → Prop} {w1 w2 : va_W} (h : va_D A (w1 ++ w2)) : va_D A w1 ∧ va_D A w2 ∧ ∀ q ∈ w1, ∀ r ∈ w2, q.1 ≠ r.1 := by
  have hd := va_D_iff.mp h
  rw [List.map_append, List.nodup_append] at hd
  refine ⟨va_D_iff.mpr ⟨hd.1.1, fun q hq => hd.2 q (List.mem_append_left _ hq)⟩, va_D_iff.mpr ⟨hd.1.2.1, fun q hq => hd.2 q (List.mem_append_right _ hq)⟩, fun q hq r hr => ?_⟩
  exact hd.1.2.2 q.1 (List.mem_map.mpr ⟨q, hq, rfl⟩) r.1 (List.mem_map.mpr ⟨r, hr, rfl⟩)
theorem D_app {A : Nat → Prop} {w1 w2 : va_W} (h1 : va_D A w1) (h2 : va_D A w2) (h : ∀ q ∈ w1, ∀ r ∈ w2, q.1 ≠ r.1) : va_D A (w1 ++ w2) := by
  have d1 := va_D_iff.mp h1
  have d2 := va_D_iff.mp h2
  rw [va_D_iff, List.map_append, List.nodup_append]
  refine ⟨⟨d1.1, d2.1, fun x hx y hy => ?_⟩, fun q hq => (List.mem_append.mp hq).elim (d1.2 q) (d2.2 q)⟩
  obtain ⟨q, hq, rfl⟩ := List.mem_map.mp hx
  obtain ⟨r, hr, rfl⟩ := List.mem_map.mp hy
  exact h q hq r hr
section
variable {p : Program} {l : Launch} {e : Env} {R : Room} {s : State} {m : MethodId} {args : Array Value} {below : List Frame} {meth : Method} {c : Code} {H : Heap} {locs : List Loc} {cells slots : Nat} {Q : State → Prop}
variable {pc : Nat} {ls : Array Slot} {rest st0 : List Value} {A : Nat → Prop} {H0 : Heap} {D : va_G} {cl : List vw_C} {tys : List (ClassId × FieldType)} {w0 cs : va_W} {cs' : (Nat → Nat) → va_W} {av : Array Value} {mc ms : Nat}
/-- a call of a constructor on the cells at the world's end, which may make more -/
theorem cg_call (hr : va_Run p l e R s m args below meth c H locs cells slots mc ms (F0 m pc ls st0) rest (ct_QN D cl (va_A cs H.size) cs' av) (va_A cs H.size)) (hP : va_P D cl (w0 ++ cs) H) (hD : va_D A (w0 ++ cs)) (hS : va_S A H0 H locs) (hA : ∀ q, H0.size ≤ q → A q)
    (kk : ∀ (g : Nat → Nat) (H1 : Heap) (locs1 : List Loc), va_P D cl (w0 ++ cs' g) H1 → va_D A (w0 ++ cs' g) → va_S A H0 H1 locs1 → W p l e R s m args below meth c H1 locs1 (cells + mc) (slots + ms) Q (F0 m (pc + 3) ls rest)) : W p l e R s m args below meth c H locs cells slots Q (F0 m pc ls st0) := by
  intro T hT X
  obtain ⟨hP0, hPc⟩ := app_P.mp hP
  obtain ⟨hD0, hDc, hap⟩ := app_D hD
  have hF : ∀ q, va_A cs H.size q → A q := fun q h => by
    rcases h with ⟨k, e, h⟩ | h
    · exact hDc.2 k (q, e) h
    · exact hA q (Nat.le_trans hS.1 h)
  have hN : ∀ q ∈ w0, q.1 < H.size ∧ ¬ va_A cs H.size q.1 := fun q hq => by
    have hlt := (va_P_iff.mp hP0 q hq).lt
    refine ⟨hlt, fun h => ?_⟩
    rcases h with ⟨k, e, h⟩ | h
    · exact hap q hq (q.1, e) (List.mem_of_getElem? h) rfl
    · omega
  obtain ⟨v, st₀, t, T', L, h0, X', hL, e1, e2, ⟨⟨g, hv, hp, hd⟩, hz, hk⟩, st⟩ := hr T hT X
  cases hv
  rw [h0] at hz hk
  have hP1 : va_P D cl (w0 ++ cs' g) T'.heap := by
    rw [e1]
    refine app_P.mpr ⟨va_P_iff.mpr fun q hq => ?_, hp⟩
    obtain ⟨h1, h2⟩ := hN q hq
    exact (va_P_iff.mp hP0 q hq).kept (hk q.1 h1 h2)
  have hD1 : va_D A (w0 ++ cs' g) := by
    refine D_app hD0 (hd.weaken (fun k q _ h => hF q.1 h)) (fun q hq r hr9 heq => ?_)
    exact (hN q hq).2 (by rw [heq]; exact (va_D_iff.mp hd).2 r hr9)
  obtain ⟨t2, a1, b1⟩ := kk g T'.heap (locs ++ L) hP1 hD1
    ⟨Nat.le_trans hS.1 (by rw [e1]; exact hz), fun q h1 h2 => by rw [e1, hk q (Nat.lt_of_lt_of_le h1 hS.1) (fun z => h2 (hF q z))]; exact hS.2.1 q h1 h2, fun q hq => by
      rcases List.mem_append.mp hq with h | h
      · exact hS.2.2 q h
      · exact hF _ (hL q h)⟩ T' rfl X'
  exact ⟨t2, st t2 a1, b1⟩
theorem cg_blind {E : State → Prop} (hs : ∀ {u U : State}, u.vm = U.vm → E u → E U) (av : List Value) (cs : va_W) (sz : Nat) : FrameBlind (va_Pc av (ct_BE E D cl tys cs sz)) := ct_blindE hs av cs sz
theorem cg_pre {E : State → Prop} (hw : ∀ {s U : State}, s.WarmedH U.vm → E s → E U) (hP : va_P D cl (w0 ++ cs) H) (hD : va_D A (w0 ++ cs)) (hK : va_K D cl tys s) (hE : E s) (av : List Value) : ∀ U : State, U.heap = H → s.WarmedH U.vm → va_Pc av (ct_BE E D cl tys cs H.size) av.toArray U := fun U hU hW => by
  refine ⟨rfl, by rw [hU], ?_, va_K.moved hW.alike hK, (app_D hD).2.1.weaken (fun _ _ _ _ => trivial), hw hW hE⟩
  rw [hU]
  exact (app_P.mp hP).2
end
theorem noE_same {u U : State} (_ : u.vm = U.vm) (_ : noE u) : noE U := trivial
theorem noE_warm {s U : State} (_ : s.WarmedH U.vm) (_ : noE s) : noE U := trivial
theorem aoI_same {u U : State} (h : u.vm = U.vm) (hE : aoI u) : aoI U := over_moved (a := #[]) (a' := #[]) (by rw [h]; exact Vm.Alike.refl _) hE
theorem aoI_warm {s U : State} (hW : s.WarmedH U.vm) (hE : aoI s) : aoI U := over_moved (a := #[]) (a' := #[]) hW.alike hE
