noncomputable def f_BR_length (x0 : Nat) : Option (Nat) := some (iM 2 x0)
abbrev rm_BR_length : Room := { frames := 0, cells := 0, slots := 0, locals := 0 }
set_option maxHeartbeats 4000000 in
set_option maxRecDepth 100000 in
theorem ct_BR_length (l : Launch) (dC : Nat → ClassId) (dI : Nat → Nat → Nat) (K : Nat → ClassId) (q_t : Nat) (x0 : Nat) (r : Nat) (hf : f_BR_length x0 = some r) : Ct l (dC, dI) vwCl yBR_length wc_BR_length rm_BR_length (tyK K) [.ref q_t, .int (nI x0)] (w_BR K q_t) (w_BR K q_t) (some (.int (nI r))) := by
  intro sz
  refine Met.ofW (cc := cBR_length) (maxL := 2) (ret := (some .int)) (by decide) rfl ?_
  intro p e s m args below meth c s₁ B hml hv
  obtain ⟨rfl, hsz, hP, hK, hD0⟩ := hv
  have hx := B.exec
  have hb := B.bytes
  have hr := B.returns
  have hts := atoms_spec (ws := wc_BR_length) B.pre
  have hws : ∀ w ∈ WS, w.before _ s = true := fun w h => hts w (List.mem_cons_of_mem _ h)
  have hown : s.vm.findClass RBR = some m.cls := findClass_of_methodNamed B.named
  have hlocks := B.notSynchronized
  subst hsz
  have hD := hD0.self (sz := s.heap.size)
  generalize hAe : va_A (w_BR K q_t) s.heap.size = A at hD ⊢
  have hA : ∀ q : Nat, s.heap.size ≤ q → A q := fun q h => by rw [← hAe]; exact Or.inr h
  have hS : va_S A s.heap s.heap [] := va_S.rf
  have hl := lv_entry ([.ref q_t, .int (nI x0)]) (n := 2) (Nat.le_of_ble_eq_true rfl)
  rw [lg_entry_eq]
  generalize (lg_sl ([.ref q_t, .int (nI x0)]) ++ List.replicate (2 - (lg_sl ([.ref q_t, .int (nI x0)])).length) Slot.unset).toArray = ls at hl ⊢
  have hl : lv_has ls 2 [(0, .ref q_t), (1, .int (nI x0))] := hl
  generalize ([.ref q_t, .int (nI x0)] : List Value).toArray = args at hts hws ⊢
  generalize hQ : MQ below _ _ _ _ _ _ = Q
  unfold f_BR_length at hf
  refine lv_iconst (v := nI 2) hx hb dBR_length_0 (by decide +kernel) ?_
  refine lv_iload_n hx hb dBR_length_1 rfl (lv_at hl 1 rfl) ?_
  refine lx_imul hx hb dBR_length_2 ?_
  obtain rfl := Option.some.inj hf
  rw [← hQ]
  exact W.iret (v := nI (iM 2 x0)) hx hb hr (fun t ht hW => ⟨⟨rfl, by rw [ht]; exact hP⟩, hS.F ht⟩) hS.2.2 dBR_length_3
noncomputable def f_BT_length (x0 : Nat) : Option (Nat) := some (iM 2 x0)
abbrev rm_BT_length : Room := { frames := 0, cells := 0, slots := 0, locals := 0 }
set_option maxHeartbeats 4000000 in
set_option maxRecDepth 100000 in
theorem ct_BT_length (l : Launch) (dC : Nat → ClassId) (dI : Nat → Nat → Nat) (K : Nat → ClassId) (q_t : Nat) (q_t_ends : Nat) (f_t_ends : Nat → Int32) (x0 : Nat) (z_t_ends : Nat) (r : Nat) (hf : f_BT_length x0 = some r) : Ct l (dC, dI) vwCl yBT_length wc_BT_length rm_BT_length (tyK K) [.ref q_t, .int (nI x0)] (w_BT K q_t q_t_ends f_t_ends z_t_ends) (w_BT K q_t q_t_ends f_t_ends z_t_ends) (some (.int (nI r))) := by
  intro sz
  refine Met.ofW (cc := cBT_length) (maxL := 2) (ret := (some .int)) (by decide) rfl ?_
  intro p e s m args below meth c s₁ B hml hv
  obtain ⟨rfl, hsz, hP, hK, hD0⟩ := hv
  have hx := B.exec
  have hb := B.bytes
  have hr := B.returns
  have hts := atoms_spec (ws := wc_BT_length) B.pre
  have hws : ∀ w ∈ WS, w.before _ s = true := fun w h => hts w (List.mem_cons_of_mem _ h)
  have hown : s.vm.findClass RBT = some m.cls := findClass_of_methodNamed B.named
  have hlocks := B.notSynchronized
  subst hsz
  have hD := hD0.self (sz := s.heap.size)
  generalize hAe : va_A (w_BT K q_t q_t_ends f_t_ends z_t_ends) s.heap.size = A at hD ⊢
  have hA : ∀ q : Nat, s.heap.size ≤ q → A q := fun q h => by rw [← hAe]; exact Or.inr h
  have hS : va_S A s.heap s.heap [] := va_S.rf
  have hl := lv_entry ([.ref q_t, .int (nI x0)]) (n := 2) (Nat.le_of_ble_eq_true rfl)
  rw [lg_entry_eq]
  generalize (lg_sl ([.ref q_t, .int (nI x0)]) ++ List.replicate (2 - (lg_sl ([.ref q_t, .int (nI x0)])).length) Slot.unset).toArray = ls at hl ⊢
  have hl : lv_has ls 2 [(0, .ref q_t), (1, .int (nI x0))] := hl
  generalize ([.ref q_t, .int (nI x0)] : List Value).toArray = args at hts hws ⊢
  generalize hQ : MQ below _ _ _ _ _ _ = Q
  unfold f_BT_length at hf
  refine lv_iconst (v := nI 2) hx hb dBT_length_0 (by decide +kernel) ?_
  refine lv_iload_n hx hb dBT_length_1 rfl (lv_at hl 1 rfl) ?_
  refine lx_imul hx hb dBT_length_2 ?_
  obtain rfl := Option.some.inj hf
  rw [← hQ]
  exact W.iret (v := nI (iM 2 x0)) hx hb hr (fun t ht hW => ⟨⟨rfl, by rw [ht]; exact hP⟩, hS.F ht⟩) hS.2.2 dBT_length_3
noncomputable def f_PT_length (x0 : Nat) : Option (Nat) := some (iA x0 1)
abbrev rm_PT_length : Room := { frames := 0, cells := 0, slots := 0, locals := 0 }
set_option maxHeartbeats 4000000 in
set_option maxRecDepth 100000 in
theorem ct_PT_length (l : Launch) (dC : Nat → ClassId) (dI : Nat → Nat → Nat) (K : Nat → ClassId) (q_t : Nat) (q_t_lasts : Nat) (f_t_lasts : Nat → Int32) (x0 : Nat) (z_t_lasts : Nat) (r : Nat) (hf : f_PT_length x0 = some r) : Ct l (dC, dI) vwCl yPT_length wc_PT_length rm_PT_length (tyK K) [.ref q_t, .int (nI x0)] (w_PT K q_t q_t_lasts f_t_lasts z_t_lasts) (w_PT K q_t q_t_lasts f_t_lasts z_t_lasts) (some (.int (nI r))) := by
  intro sz
  refine Met.ofW (cc := cPT_length) (maxL := 2) (ret := (some .int)) (by decide) rfl ?_
  intro p e s m args below meth c s₁ B hml hv
  obtain ⟨rfl, hsz, hP, hK, hD0⟩ := hv
  have hx := B.exec
  have hb := B.bytes
  have hr := B.returns
  have hts := atoms_spec (ws := wc_PT_length) B.pre
  have hws : ∀ w ∈ WS, w.before _ s = true := fun w h => hts w (List.mem_cons_of_mem _ h)
  have hown : s.vm.findClass RPT = some m.cls := findClass_of_methodNamed B.named
  have hlocks := B.notSynchronized
  subst hsz
  have hD := hD0.self (sz := s.heap.size)
  generalize hAe : va_A (w_PT K q_t q_t_lasts f_t_lasts z_t_lasts) s.heap.size = A at hD ⊢
  have hA : ∀ q : Nat, s.heap.size ≤ q → A q := fun q h => by rw [← hAe]; exact Or.inr h
  have hS : va_S A s.heap s.heap [] := va_S.rf
  have hl := lv_entry ([.ref q_t, .int (nI x0)]) (n := 2) (Nat.le_of_ble_eq_true rfl)
  rw [lg_entry_eq]
  generalize (lg_sl ([.ref q_t, .int (nI x0)]) ++ List.replicate (2 - (lg_sl ([.ref q_t, .int (nI x0)])).length) Slot.unset).toArray = ls at hl ⊢
  have hl : lv_has ls 2 [(0, .ref q_t), (1, .int (nI x0))] := hl
  generalize ([.ref q_t, .int (nI x0)] : List Value).toArray = args at hts hws ⊢
  generalize hQ : MQ below _ _ _ _ _ _ = Q
  unfold f_PT_length at hf
  refine lv_iload_n hx hb dPT_length_0 rfl (lv_at hl 1 rfl) ?_
  refine lv_iconst (v := nI 1) hx hb dPT_length_1 (by decide +kernel) ?_
  refine lx_iadd hx hb dPT_length_2 ?_
  obtain rfl := Option.some.inj hf
  rw [← hQ]
  exact W.iret (v := nI (iA x0 1)) hx hb hr (fun t ht hW => ⟨⟨rfl, by rw [ht]; exact hP⟩, hS.F ht⟩) hS.2.2 dPT_length_3
noncomputable def f_TR_length (x0 : Nat) : Option (Nat) := some (iS (iM 2 x0) 2)
abbrev rm_TR_length : Room := { frames := 0, cells := 0, slots := 0, locals := 0 }
set_option maxHeartbeats 4000000 in
set_option maxRecDepth 100000 in
theorem ct_TR_length (l : Launch) (dC : Nat → ClassId) (dI : Nat → Nat → Nat) (K : Nat → ClassId) (q_t : Nat) (q_t_lows : Nat) (q_t_highs : Nat) (f_t_lows : Nat → Int32) (f_t_highs : Nat → Int32) (x0 : Nat) (z_t_lows : Nat) (z_t_highs : Nat) (z_t_diagonals : Nat) (r : Nat) (hf : f_TR_length x0 = some r) : Ct l (dC, dI) vwCl yTR_length wc_TR_length rm_TR_length (tyK K) [.ref q_t, .int (nI x0)] (w_TR K q_t q_t_lows q_t_highs f_t_lows f_t_highs z_t_lows z_t_highs z_t_diagonals) (w_TR K q_t q_t_lows q_t_highs f_t_lows f_t_highs z_t_lows z_t_highs z_t_diagonals) (some (.int (nI r))) := by
  intro sz
  refine Met.ofW (cc := cTR_length) (maxL := 2) (ret := (some .int)) (by decide) rfl ?_
  intro p e s m args below meth c s₁ B hml hv
  obtain ⟨rfl, hsz, hP, hK, hD0⟩ := hv
  have hx := B.exec
  have hb := B.bytes
  have hr := B.returns
  have hts := atoms_spec (ws := wc_TR_length) B.pre
  have hws : ∀ w ∈ WS, w.before _ s = true := fun w h => hts w (List.mem_cons_of_mem _ h)
  have hown : s.vm.findClass RTR = some m.cls := findClass_of_methodNamed B.named
  have hlocks := B.notSynchronized
  subst hsz
  have hD := hD0.self (sz := s.heap.size)
  generalize hAe : va_A (w_TR K q_t q_t_lows q_t_highs f_t_lows f_t_highs z_t_lows z_t_highs z_t_diagonals) s.heap.size = A at hD ⊢
  have hA : ∀ q : Nat, s.heap.size ≤ q → A q := fun q h => by rw [← hAe]; exact Or.inr h
  have hS : va_S A s.heap s.heap [] := va_S.rf
  have hl := lv_entry ([.ref q_t, .int (nI x0)]) (n := 2) (Nat.le_of_ble_eq_true rfl)
  rw [lg_entry_eq]
  generalize (lg_sl ([.ref q_t, .int (nI x0)]) ++ List.replicate (2 - (lg_sl ([.ref q_t, .int (nI x0)])).length) Slot.unset).toArray = ls at hl ⊢
  have hl : lv_has ls 2 [(0, .ref q_t), (1, .int (nI x0))] := hl
  generalize ([.ref q_t, .int (nI x0)] : List Value).toArray = args at hts hws ⊢
  generalize hQ : MQ below _ _ _ _ _ _ = Q
  unfold f_TR_length at hf
  refine lv_iconst (v := nI 2) hx hb dTR_length_0 (by decide +kernel) ?_
  refine lv_iload_n hx hb dTR_length_1 rfl (lv_at hl 1 rfl) ?_
  refine lx_imul hx hb dTR_length_2 ?_
  refine lv_iconst (v := nI 2) hx hb dTR_length_3 (by decide +kernel) ?_
  refine lx_isub hx hb dTR_length_4 ?_
  obtain rfl := Option.some.inj hf
  rw [← hQ]
  exact W.iret (v := nI (iS (iM 2 x0) 2)) hx hb hr (fun t ht hW => ⟨⟨rfl, by rw [ht]; exact hP⟩, hS.F ht⟩) hS.2.2 dTR_length_5
noncomputable def f_PA_length (x0 : Nat) : Option (Nat) := some x0
abbrev rm_PA_length : Room := { frames := 0, cells := 0, slots := 0, locals := 0 }
set_option maxHeartbeats 4000000 in
set_option maxRecDepth 100000 in
theorem ct_PA_length (l : Launch) (dC : Nat → ClassId) (dI : Nat → Nat → Nat) (K : Nat → ClassId) (q_t : Nat) (q_t_pile : Nat) (q_t_leasts : Nat) (q_t_greatests : Nat) (q_t_former : Nat) (f_t_pile : Nat → Int32) (f_t_leasts : Nat → Int32) (f_t_greatests : Nat → Int32) (f_t_former : Nat → Int32) (x0 : Nat) (z_t_pile : Nat) (z_t_leasts : Nat) (z_t_greatests : Nat) (z_t_former : Nat) (r : Nat) (hf : f_PA_length x0 = some r) : Ct l (dC, dI) vwCl yPA_length wc_PA_length rm_PA_length (tyK K) [.ref q_t, .int (nI x0)] (w_PA K q_t q_t_pile q_t_leasts q_t_greatests q_t_former f_t_pile f_t_leasts f_t_greatests f_t_former z_t_pile z_t_leasts z_t_greatests z_t_former) (w_PA K q_t q_t_pile q_t_leasts q_t_greatests q_t_former f_t_pile f_t_leasts f_t_greatests f_t_former z_t_pile z_t_leasts z_t_greatests z_t_former) (some (.int (nI r))) := by
  intro sz
  refine Met.ofW (cc := cPA_length) (maxL := 2) (ret := (some .int)) (by decide) rfl ?_
  intro p e s m args below meth c s₁ B hml hv
  obtain ⟨rfl, hsz, hP, hK, hD0⟩ := hv
  have hx := B.exec
  have hb := B.bytes
  have hr := B.returns
  have hts := atoms_spec (ws := wc_PA_length) B.pre
  have hws : ∀ w ∈ WS, w.before _ s = true := fun w h => hts w (List.mem_cons_of_mem _ h)
  have hown : s.vm.findClass RPA = some m.cls := findClass_of_methodNamed B.named
  have hlocks := B.notSynchronized
  subst hsz
  have hD := hD0.self (sz := s.heap.size)
  generalize hAe : va_A (w_PA K q_t q_t_pile q_t_leasts q_t_greatests q_t_former f_t_pile f_t_leasts f_t_greatests f_t_former z_t_pile z_t_leasts z_t_greatests z_t_former) s.heap.size = A at hD ⊢
  have hA : ∀ q : Nat, s.heap.size ≤ q → A q := fun q h => by rw [← hAe]; exact Or.inr h
  have hS : va_S A s.heap s.heap [] := va_S.rf
  have hl := lv_entry ([.ref q_t, .int (nI x0)]) (n := 2) (Nat.le_of_ble_eq_true rfl)
  rw [lg_entry_eq]
  generalize (lg_sl ([.ref q_t, .int (nI x0)]) ++ List.replicate (2 - (lg_sl ([.ref q_t, .int (nI x0)])).length) Slot.unset).toArray = ls at hl ⊢
  have hl : lv_has ls 2 [(0, .ref q_t), (1, .int (nI x0))] := hl
  generalize ([.ref q_t, .int (nI x0)] : List Value).toArray = args at hts hws ⊢
  generalize hQ : MQ below _ _ _ _ _ _ = Q
  unfold f_PA_length at hf
  refine lv_iload_n hx hb dPA_length_0 rfl (lv_at hl 1 rfl) ?_
  obtain rfl := Option.some.inj hf
  rw [← hQ]
  exact W.iret (v := nI x0) hx hb hr (fun t ht hW => ⟨⟨rfl, by rw [ht]; exact hP⟩, hS.F ht⟩) hS.2.2 dPA_length_1
noncomputable def f_PE_length (x0 : Nat) : Option (Nat) := some x0
abbrev rm_PE_length : Room := { frames := 0, cells := 0, slots := 0, locals := 0 }
set_option maxHeartbeats 4000000 in
set_option maxRecDepth 100000 in
theorem ct_PE_length (l : Launch) (dC : Nat → ClassId) (dI : Nat → Nat → Nat) (K : Nat → ClassId) (q_t : Nat) (q_t_openers : Nat) (f_t_openers : Nat → Int32) (x0 : Nat) (z_t_openers : Nat) (r : Nat) (hf : f_PE_length x0 = some r) : Ct l (dC, dI) vwCl yPE_length wc_PE_length rm_PE_length (tyK K) [.ref q_t, .int (nI x0)] (w_PE K q_t q_t_openers f_t_openers z_t_openers) (w_PE K q_t q_t_openers f_t_openers z_t_openers) (some (.int (nI r))) := by
  intro sz
  refine Met.ofW (cc := cPE_length) (maxL := 2) (ret := (some .int)) (by decide) rfl ?_
  intro p e s m args below meth c s₁ B hml hv
  obtain ⟨rfl, hsz, hP, hK, hD0⟩ := hv
  have hx := B.exec
  have hb := B.bytes
  have hr := B.returns
  have hts := atoms_spec (ws := wc_PE_length) B.pre
  have hws : ∀ w ∈ WS, w.before _ s = true := fun w h => hts w (List.mem_cons_of_mem _ h)
  have hown : s.vm.findClass RPE = some m.cls := findClass_of_methodNamed B.named
  have hlocks := B.notSynchronized
  subst hsz
  have hD := hD0.self (sz := s.heap.size)
  generalize hAe : va_A (w_PE K q_t q_t_openers f_t_openers z_t_openers) s.heap.size = A at hD ⊢
  have hA : ∀ q : Nat, s.heap.size ≤ q → A q := fun q h => by rw [← hAe]; exact Or.inr h
  have hS : va_S A s.heap s.heap [] := va_S.rf
  have hl := lv_entry ([.ref q_t, .int (nI x0)]) (n := 2) (Nat.le_of_ble_eq_true rfl)
  rw [lg_entry_eq]
  generalize (lg_sl ([.ref q_t, .int (nI x0)]) ++ List.replicate (2 - (lg_sl ([.ref q_t, .int (nI x0)])).length) Slot.unset).toArray = ls at hl ⊢
  have hl : lv_has ls 2 [(0, .ref q_t), (1, .int (nI x0))] := hl
  generalize ([.ref q_t, .int (nI x0)] : List Value).toArray = args at hts hws ⊢
  generalize hQ : MQ below _ _ _ _ _ _ = Q
  unfold f_PE_length at hf
  refine lv_iload_n hx hb dPE_length_0 rfl (lv_at hl 1 rfl) ?_
  obtain rfl := Option.some.inj hf
  rw [← hQ]
  exact W.iret (v := nI x0) hx hb hr (fun t ht hW => ⟨⟨rfl, by rw [ht]; exact hP⟩, hS.F ht⟩) hS.2.2 dPE_length_1
noncomputable def j_BR_write_25 (ih : Nat → Nat → Option (Nat)) (z_p0_bits : Nat) (z_p0_pairs : Nat) (z_p1 : Nat) (l3 : Nat) (s0 : Nat) (s1 : Nat) (y_p1 : Nat) : Option (Nat) := (bif Nat.blt s1 20 then (fz (iA l3 1) (fun u3 => fz (aw y_p1 s1 s0) (fun u4 => ih u3 u4))) else none)
noncomputable def b_BR_write_2 (ih : Nat → Nat → Option (Nat)) (z_p0_bits : Nat) (z_p0_pairs : Nat) (z_p1 : Nat) (l3 : Nat) (y_p1 : Nat) : Option (Nat) := (Option.bind (f_WD_length z_p0_pairs) (fun q1 => (bif iLt l3 q1 then (Option.bind (f_WD_isOne l3 z_p0_bits z_p0_pairs) (fun q2 => (bif iEq q2 0 then (j_BR_write_25 ih z_p0_bits z_p0_pairs z_p1 l3 0 l3 y_p1) else (j_BR_write_25 ih z_p0_bits z_p0_pairs z_p1 l3 1 l3 y_p1)))) else some y_p1)))
noncomputable def fr_BR_write (z_p0_bits : Nat) (z_p0_pairs : Nat) (z_p1 : Nat) (k : Nat) : Nat → Nat → Option (Nat) := Nat.rec (motive := fun _ => Nat → Nat → Option (Nat)) (fun _ _ => none) (fun _ ih a0 a1 => b_BR_write_2 ih z_p0_bits z_p0_pairs z_p1 a0 a1) k
theorem frs_BR_write_2 (z_p0_bits : Nat) (z_p0_pairs : Nat) (z_p1 : Nat) (k : Nat) (l3 : Nat) (y_p1 : Nat) : fr_BR_write z_p0_bits z_p0_pairs z_p1 (k + 1) l3 y_p1 = b_BR_write_2 (fr_BR_write z_p0_bits z_p0_pairs z_p1 k) z_p0_bits z_p0_pairs z_p1 l3 y_p1 := rfl
noncomputable def e_BR_write (ih : Nat → Nat → Option (Nat)) (z_p0_bits : Nat) (z_p0_pairs : Nat) (z_p1 : Nat) : Option (Nat) := (ih 0 z_p1)
noncomputable def f_BR_write (z_p0_bits : Nat) (z_p0_pairs : Nat) (z_p1 : Nat) : Option (Nat) := e_BR_write (fr_BR_write z_p0_bits z_p0_pairs z_p1 1000000) z_p0_bits z_p0_pairs z_p1
abbrev rm_BR_write : Room := { frames := 2, cells := 0, slots := 0, locals := 41 }
set_option maxHeartbeats 4000000 in
set_option maxRecDepth 100000 in
theorem ct_BR_write (l : Launch) (dC : Nat → ClassId) (dI : Nat → Nat → Nat) (K : Nat → ClassId) (q_t : Nat) (q_p0 : Nat) (q_p0_bits : Nat) (q_p0_closings : Nat) (q_p1 : Nat) (f_p0_bits : Nat → Int32) (f_p0_closings : Nat → Int32) (f_p1 : Nat → Int32) (z_p0_bits : Nat) (z_p0_closings : Nat) (z_p0_pairs : Nat) (z_p1 : Nat) (r : Nat) (hf : f_BR_write z_p0_bits z_p0_pairs z_p1 = some r) : Ct l (dC, dI) vwCl yBR_write wc_BR_write rm_BR_write (tyK K) [.ref q_t, .ref q_p0, .ref q_p1] ((w_BR K q_t) ++ (w_WD K q_p0 q_p0_bits q_p0_closings f_p0_bits f_p0_closings z_p0_bits z_p0_closings z_p0_pairs) ++ (wArr K 20 q_p1 f_p1 z_p1)) ((w_BR K q_t) ++ (w_WD K q_p0 q_p0_bits q_p0_closings f_p0_bits f_p0_closings z_p0_bits z_p0_closings z_p0_pairs) ++ (wArr K 20 q_p1 f_p1 r)) none := by
  intro sz
  refine Met.ofW (cc := cBR_write) (maxL := 4) (ret := none) (by decide) rfl ?_
  intro p e s m args below meth c s₁ B hml hv
  obtain ⟨rfl, hsz, hP, hK, hD0⟩ := hv
  have hx := B.exec
  have hb := B.bytes
  have hr := B.returns
  have hts := atoms_spec (ws := wc_BR_write) B.pre
  have hws : ∀ w ∈ WS, w.before _ s = true := fun w h => hts w (List.mem_cons_of_mem _ h)
  have hown : s.vm.findClass RBR = some m.cls := findClass_of_methodNamed B.named
  have hlocks := B.notSynchronized
  subst hsz
  have hD := hD0.self (sz := s.heap.size)
  generalize hAe : va_A ((w_BR K q_t) ++ (w_WD K q_p0 q_p0_bits q_p0_closings f_p0_bits f_p0_closings z_p0_bits z_p0_closings z_p0_pairs) ++ (wArr K 20 q_p1 f_p1 z_p1)) s.heap.size = A at hD ⊢
  have hA : ∀ q : Nat, s.heap.size ≤ q → A q := fun q h => by rw [← hAe]; exact Or.inr h
  have hS : va_S A s.heap s.heap [] := va_S.rf
  have hl := lv_entry ([.ref q_t, .ref q_p0, .ref q_p1]) (n := 4) (Nat.le_of_ble_eq_true rfl)
  rw [lg_entry_eq]
  generalize (lg_sl ([.ref q_t, .ref q_p0, .ref q_p1]) ++ List.replicate (4 - (lg_sl ([.ref q_t, .ref q_p0, .ref q_p1])).length) Slot.unset).toArray = ls at hl ⊢
  have hl : lv_has ls 4 [(0, .ref q_t), (1, .ref q_p0), (2, .ref q_p1)] := hl
  generalize ([.ref q_t, .ref q_p0, .ref q_p1] : List Value).toArray = args at hts hws ⊢
  generalize hQ : MQ below _ _ _ _ _ _ = Q
  have hj_25 : ∀ (ih : Nat → Nat → Option (Nat)) (IH : (∀ (l3 y_p1 : Nat) (H : Heap) (locs : List Loc) (ls : Array Slot), ih l3 y_p1 = some r → lv_has ls 4 [(1, .ref q_p0), (2, .ref q_p1), (3, .int (nI l3))] → va_P (dC, dI) vwCl ((w_BR K q_t) ++ (w_WD K q_p0 q_p0_bits q_p0_closings f_p0_bits f_p0_closings z_p0_bits z_p0_closings z_p0_pairs) ++ (wArr K 20 q_p1 f_p1 y_p1)) H → va_D A ((w_BR K q_t) ++ (w_WD K q_p0 q_p0_bits q_p0_closings f_p0_bits f_p0_closings z_p0_bits z_p0_closings z_p0_pairs) ++ (wArr K 20 q_p1 f_p1 y_p1)) → va_S A s.heap H locs → W p l e (headSpec wc_BR_write rm_BR_write).room s m args below meth c H locs 0 0 Q (F0 m 2 ls []))), ∀ (l3 s0 s1 y_p1 : Nat) (H : Heap) (locs : List Loc) (ls : Array Slot), j_BR_write_25 ih z_p0_bits z_p0_pairs z_p1 l3 s0 s1 y_p1 = some r → lv_has ls 4 [(1, .ref q_p0), (2, .ref q_p1), (3, .int (nI l3))] → va_P (dC, dI) vwCl ((w_BR K q_t) ++ (w_WD K q_p0 q_p0_bits q_p0_closings f_p0_bits f_p0_closings z_p0_bits z_p0_closings z_p0_pairs) ++ (wArr K 20 q_p1 f_p1 y_p1)) H → va_D A ((w_BR K q_t) ++ (w_WD K q_p0 q_p0_bits q_p0_closings f_p0_bits f_p0_closings z_p0_bits z_p0_closings z_p0_pairs) ++ (wArr K 20 q_p1 f_p1 y_p1)) → va_S A s.heap H locs → W p l e (headSpec wc_BR_write rm_BR_write).room s m args below meth c H locs 0 0 Q (F0 m 25 ls [.int (nI s0), .int (nI s1), .ref q_p1]) := by
    intro ih IH l3 s0 s1 y_p1 H locs ls hf hl hP hD hS
    unfold j_BR_write_25 at hf
    refine lx_iast hx hb hK hP hD hS 4 0 rfl rfl (by decide) dBR_write_25 hf (fun hf H locs hP hD hS => ?_)
    have hP : va_P (dC, dI) vwCl ((w_BR K q_t) ++ (w_WD K q_p0 q_p0_bits q_p0_closings f_p0_bits f_p0_closings z_p0_bits z_p0_closings z_p0_pairs) ++ (wArr K 20 q_p1 f_p1 (aw y_p1 s1 s0))) H := hP
    have hD : va_D A ((w_BR K q_t) ++ (w_WD K q_p0 q_p0_bits q_p0_closings f_p0_bits f_p0_closings z_p0_bits z_p0_closings z_p0_pairs) ++ (wArr K 20 q_p1 f_p1 (aw y_p1 s1 s0))) := hD
    refine lx_iinc (k := 2) (d := 1) hx hb dBR_write_26 hl rfl (by decide +kernel) (by decide) rfl (fun ls hl => ?_)
    refine lv_goto (tgt := 2) hx hb dBR_write_29 (by decide) ?_
    have hf := fz_s hf
    have hf := fz_s hf
    exact IH (iA l3 1) (aw y_p1 s1 s0) _ _ _ hf (lv_sub hl [1, 2, 0] rfl) hP hD hS
  have hb_2 : ∀ (ih : Nat → Nat → Option (Nat)) (IH : (∀ (l3 y_p1 : Nat) (H : Heap) (locs : List Loc) (ls : Array Slot), ih l3 y_p1 = some r → lv_has ls 4 [(1, .ref q_p0), (2, .ref q_p1), (3, .int (nI l3))] → va_P (dC, dI) vwCl ((w_BR K q_t) ++ (w_WD K q_p0 q_p0_bits q_p0_closings f_p0_bits f_p0_closings z_p0_bits z_p0_closings z_p0_pairs) ++ (wArr K 20 q_p1 f_p1 y_p1)) H → va_D A ((w_BR K q_t) ++ (w_WD K q_p0 q_p0_bits q_p0_closings f_p0_bits f_p0_closings z_p0_bits z_p0_closings z_p0_pairs) ++ (wArr K 20 q_p1 f_p1 y_p1)) → va_S A s.heap H locs → W p l e (headSpec wc_BR_write rm_BR_write).room s m args below meth c H locs 0 0 Q (F0 m 2 ls []))), ∀ (l3 y_p1 : Nat) (H : Heap) (locs : List Loc) (ls : Array Slot), b_BR_write_2 ih z_p0_bits z_p0_pairs z_p1 l3 y_p1 = some r → lv_has ls 4 [(1, .ref q_p0), (2, .ref q_p1), (3, .int (nI l3))] → va_P (dC, dI) vwCl ((w_BR K q_t) ++ (w_WD K q_p0 q_p0_bits q_p0_closings f_p0_bits f_p0_closings z_p0_bits z_p0_closings z_p0_pairs) ++ (wArr K 20 q_p1 f_p1 y_p1)) H → va_D A ((w_BR K q_t) ++ (w_WD K q_p0 q_p0_bits q_p0_closings f_p0_bits f_p0_closings z_p0_bits z_p0_closings z_p0_pairs) ++ (wArr K 20 q_p1 f_p1 y_p1)) → va_S A s.heap H locs → W p l e (headSpec wc_BR_write rm_BR_write).room s m args below meth c H locs 0 0 Q (F0 m 2 ls []) := by
    intro ih IH l3 y_p1 H locs ls hf hl hP hD hS
    unfold b_BR_write_2 at hf
    refine lv_iload_n hx hb dBR_write_2 rfl (lv_at hl 2 rfl) ?_
    refine lv_aload_n hx hb dBR_write_3 rfl (lv_at hl 0 rfl) ?_
    obtain ⟨q1, hq, hf⟩ := bd_s hf
    refine ct_callr (ws' := (w_BR K q_t) ++ (w_WD K q_p0 q_p0_bits q_p0_closings f_p0_bits f_p0_closings z_p0_bits z_p0_closings z_p0_pairs) ++ (wArr K 20 q_p1 f_p1 y_p1)) (va_runV (As := []) (rest := [.int (nI l3)]) ⟨hx, hb, hml, hown, hws⟩ (ct_WD_length l dC dI K q_p0 q_p0_bits q_p0_closings f_p0_bits f_p0_closings z_p0_bits z_p0_closings z_p0_pairs q1 hq _) ⟨cb_WD_length hws rm_WD_length (hws _ km_BR_7) ⟨Nat.le_of_ble_eq_true rfl, Nat.le_of_ble_eq_true rfl⟩, hws _ ki_WD_length, hws _ ke_WD_WD_length_WD_length⟩ ⟨ct_blind _ _ _, va_recv (ci := 8) (q0 := 1) (q := (RWD, TWD, 3)) hK hP rfl rfl, ct_pre (cs := (w_WD K q_p0 q_p0_bits q_p0_closings f_p0_bits f_p0_closings z_p0_bits z_p0_closings z_p0_pairs)) hP hD hK [1, 2, 3] (by decide) rfl _⟩ rfl rfl hl.1 rfl (lv_room (Nat.le_of_ble_eq_true rfl)) dBR_write_4 ⟨Nat.le_of_ble_eq_true rfl, Nat.le_of_ble_eq_true rfl⟩) hP hD hS hA [1, 2, 3] rfl rfl rfl rfl (fun H locs hP hD hS => ?_)
    refine lx_icmp_ge (tgt := 32) hx hb dBR_write_7 (by decide) hf (fun hf => ?_) (fun hf => ?_)
    · obtain rfl := Option.some.inj hf
      rw [← hQ]
      exact W.vret hx hb hr (fun t ht hW => ⟨⟨rfl, by rw [ht]; exact hP⟩, hS.F ht⟩) hS.2.2 dBR_write_32
    · refine lv_aload_n hx hb dBR_write_10 rfl (lv_at hl 1 rfl) ?_
      refine lv_iload_n hx hb dBR_write_11 rfl (lv_at hl 2 rfl) ?_
      refine lv_aload_n hx hb dBR_write_12 rfl (lv_at hl 0 rfl) ?_
      refine lv_iload_n hx hb dBR_write_13 rfl (lv_at hl 2 rfl) ?_
      obtain ⟨q2, hq, hf⟩ := bd_s hf
      refine ct_callr (ws' := (w_BR K q_t) ++ (w_WD K q_p0 q_p0_bits q_p0_closings f_p0_bits f_p0_closings z_p0_bits z_p0_closings z_p0_pairs) ++ (wArr K 20 q_p1 f_p1 y_p1)) (va_runV (As := [.int (nI l3)]) (rest := [.int (nI l3), .ref q_p1]) ⟨hx, hb, hml, hown, hws⟩ (ct_WD_isOne l dC dI K q_p0 q_p0_bits q_p0_closings f_p0_bits f_p0_closings l3 z_p0_bits z_p0_closings z_p0_pairs q2 hq _) ⟨cb_WD_isOne hws rm_WD_isOne (hws _ km_BR_13) ⟨Nat.le_of_ble_eq_true rfl, Nat.le_of_ble_eq_true rfl⟩, hws _ ki_WD_isOne, hws _ ke_WD_WD_isOne_WD_isOne⟩ ⟨ct_blind _ _ _, va_recv (ci := 8) (q0 := 1) (q := (RWD, TWD, 3)) hK hP rfl rfl, ct_pre (cs := (w_WD K q_p0 q_p0_bits q_p0_closings f_p0_bits f_p0_closings z_p0_bits z_p0_closings z_p0_pairs)) hP hD hK [1, 2, 3] (by decide) rfl _⟩ rfl rfl hl.1 rfl (lv_room (Nat.le_of_ble_eq_true rfl)) dBR_write_14 ⟨Nat.le_of_ble_eq_true rfl, Nat.le_of_ble_eq_true rfl⟩) hP hD hS hA [1, 2, 3] rfl rfl rfl rfl (fun H locs hP hD hS => ?_)
      refine lx_if_eq (tgt := 24) hx hb dBR_write_17 (by decide) hf (fun hf => ?_) (fun hf => ?_)
      · refine lv_iconst (v := nI 0) hx hb dBR_write_24 (by decide +kernel) ?_
        exact hj_25 _ IH l3 0 l3 y_p1 _ _ _ hf (lv_sub hl [0, 1, 2] rfl) hP hD hS
      · refine lv_iconst (v := nI 1) hx hb dBR_write_20 (by decide +kernel) ?_
        refine lv_goto (tgt := 25) hx hb dBR_write_21 (by decide) ?_
        exact hj_25 _ IH l3 1 l3 y_p1 _ _ _ hf (lv_sub hl [0, 1, 2] rfl) hP hD hS
  have key : ∀ k : Nat, (∀ (l3 y_p1 : Nat) (H : Heap) (locs : List Loc) (ls : Array Slot), fr_BR_write z_p0_bits z_p0_pairs z_p1 k l3 y_p1 = some r → lv_has ls 4 [(1, .ref q_p0), (2, .ref q_p1), (3, .int (nI l3))] → va_P (dC, dI) vwCl ((w_BR K q_t) ++ (w_WD K q_p0 q_p0_bits q_p0_closings f_p0_bits f_p0_closings z_p0_bits z_p0_closings z_p0_pairs) ++ (wArr K 20 q_p1 f_p1 y_p1)) H → va_D A ((w_BR K q_t) ++ (w_WD K q_p0 q_p0_bits q_p0_closings f_p0_bits f_p0_closings z_p0_bits z_p0_closings z_p0_pairs) ++ (wArr K 20 q_p1 f_p1 y_p1)) → va_S A s.heap H locs → W p l e (headSpec wc_BR_write rm_BR_write).room s m args below meth c H locs 0 0 Q (F0 m 2 ls [])) := by
    intro k
    induction k with
    | zero => exact fun l3 y_p1 H locs ls hf _ _ _ _ => no_s (α := Nat) (r := r) hf
    | succ k IH => exact fun l3 y_p1 H locs ls hf => hb_2 (fr_BR_write z_p0_bits z_p0_pairs z_p1 k) IH l3 y_p1 H locs ls ((frs_BR_write_2 z_p0_bits z_p0_pairs z_p1 k l3 y_p1).symm.trans hf)
  have IH := key 1000000
  have hf : e_BR_write (fr_BR_write z_p0_bits z_p0_pairs z_p1 1000000) z_p0_bits z_p0_pairs z_p1 = some r := hf
  unfold e_BR_write at hf
  generalize fr_BR_write z_p0_bits z_p0_pairs z_p1 1000000 = ih at hf IH
  refine lv_iconst (v := nI 0) hx hb dBR_write_0 (by decide +kernel) ?_
  refine lv_istore_n hx hb dBR_write_1 rfl hl (by decide) rfl (fun ls hl => ?_)
  exact IH 0 z_p1 _ _ _ hf (lv_sub hl [2, 3, 0] rfl) hP hD hS
noncomputable def j_BR_read_33 (ih : Nat → Nat → Nat → Option (Nat)) (z_p0 : Nat) (z_p1_closings : Nat) (z_p1_pairs : Nat) (l3 : Nat) (l4 : Nat) (y_p1_closings : Nat) : Option (Nat) := (fz (iA l4 1) (fun u5 => ih l3 u5 y_p1_closings))
noncomputable def b_BR_read_5 (ih : Nat → Nat → Nat → Option (Nat)) (z_p0 : Nat) (z_p1_closings : Nat) (z_p1_pairs : Nat) (l3 : Nat) (l4 : Nat) (y_p1_closings : Nat) : Option (Nat) := (Option.bind (f_WD_length z_p1_pairs) (fun q1 => (bif iLt l4 q1 then (rd z_p0 20 l4 (fun v2 => (bif iEq v2 1 then (fz (iA l3 1) (fun u4 => j_BR_read_33 ih z_p0 z_p1_closings z_p1_pairs u4 l4 y_p1_closings)) else (Option.bind (f_WD_closeAfter l3 y_p1_closings z_p1_pairs) (fun q3 => (j_BR_read_33 ih z_p0 z_p1_closings z_p1_pairs l3 l4 q3)))))) else some y_p1_closings)))
noncomputable def fr_BR_read (z_p0 : Nat) (z_p1_closings : Nat) (z_p1_pairs : Nat) (k : Nat) : Nat → Nat → Nat → Option (Nat) := Nat.rec (motive := fun _ => Nat → Nat → Nat → Option (Nat)) (fun _ _ _ => none) (fun _ ih a0 a1 a2 => b_BR_read_5 ih z_p0 z_p1_closings z_p1_pairs a0 a1 a2) k
theorem frs_BR_read_5 (z_p0 : Nat) (z_p1_closings : Nat) (z_p1_pairs : Nat) (k : Nat) (l3 : Nat) (l4 : Nat) (y_p1_closings : Nat) : fr_BR_read z_p0 z_p1_closings z_p1_pairs (k + 1) l3 l4 y_p1_closings = b_BR_read_5 (fr_BR_read z_p0 z_p1_closings z_p1_pairs k) z_p0 z_p1_closings z_p1_pairs l3 l4 y_p1_closings := rfl
noncomputable def e_BR_read (ih : Nat → Nat → Nat → Option (Nat)) (z_p0 : Nat) (z_p1_closings : Nat) (z_p1_pairs : Nat) : Option (Nat) := (ih 0 0 z_p1_closings)
noncomputable def f_BR_read (z_p0 : Nat) (z_p1_closings : Nat) (z_p1_pairs : Nat) : Option (Nat) := e_BR_read (fr_BR_read z_p0 z_p1_closings z_p1_pairs 1000000) z_p0 z_p1_closings z_p1_pairs
abbrev rm_BR_read : Room := { frames := 1, cells := 0, slots := 0, locals := 21 }
set_option maxHeartbeats 4000000 in
set_option maxRecDepth 100000 in
theorem ct_BR_read (l : Launch) (dC : Nat → ClassId) (dI : Nat → Nat → Nat) (K : Nat → ClassId) (q_t : Nat) (q_p0 : Nat) (q_p1 : Nat) (q_p1_bits : Nat) (q_p1_closings : Nat) (f_p0 : Nat → Int32) (f_p1_bits : Nat → Int32) (f_p1_closings : Nat → Int32) (z_p0 : Nat) (z_p1_bits : Nat) (z_p1_closings : Nat) (z_p1_pairs : Nat) (r : Nat) (hf : f_BR_read z_p0 z_p1_closings z_p1_pairs = some r) : Ct l (dC, dI) vwCl yBR_read wc_BR_read rm_BR_read (tyK K) [.ref q_t, .ref q_p0, .ref q_p1] ((w_BR K q_t) ++ (wArr K 20 q_p0 f_p0 z_p0) ++ (w_WD K q_p1 q_p1_bits q_p1_closings f_p1_bits f_p1_closings z_p1_bits z_p1_closings z_p1_pairs)) ((w_BR K q_t) ++ (wArr K 20 q_p0 f_p0 z_p0) ++ (w_WD K q_p1 q_p1_bits q_p1_closings f_p1_bits f_p1_closings z_p1_bits r z_p1_pairs)) none := by
  intro sz
  refine Met.ofW (cc := cBR_read) (maxL := 5) (ret := none) (by decide) rfl ?_
  intro p e s m args below meth c s₁ B hml hv
  obtain ⟨rfl, hsz, hP, hK, hD0⟩ := hv
  have hx := B.exec
  have hb := B.bytes
  have hr := B.returns
  have hts := atoms_spec (ws := wc_BR_read) B.pre
  have hws : ∀ w ∈ WS, w.before _ s = true := fun w h => hts w (List.mem_cons_of_mem _ h)
  have hown : s.vm.findClass RBR = some m.cls := findClass_of_methodNamed B.named
  have hlocks := B.notSynchronized
  subst hsz
  have hD := hD0.self (sz := s.heap.size)
  generalize hAe : va_A ((w_BR K q_t) ++ (wArr K 20 q_p0 f_p0 z_p0) ++ (w_WD K q_p1 q_p1_bits q_p1_closings f_p1_bits f_p1_closings z_p1_bits z_p1_closings z_p1_pairs)) s.heap.size = A at hD ⊢
  have hA : ∀ q : Nat, s.heap.size ≤ q → A q := fun q h => by rw [← hAe]; exact Or.inr h
  have hS : va_S A s.heap s.heap [] := va_S.rf
  have hl := lv_entry ([.ref q_t, .ref q_p0, .ref q_p1]) (n := 5) (Nat.le_of_ble_eq_true rfl)
  rw [lg_entry_eq]
  generalize (lg_sl ([.ref q_t, .ref q_p0, .ref q_p1]) ++ List.replicate (5 - (lg_sl ([.ref q_t, .ref q_p0, .ref q_p1])).length) Slot.unset).toArray = ls at hl ⊢
  have hl : lv_has ls 5 [(0, .ref q_t), (1, .ref q_p0), (2, .ref q_p1)] := hl
  generalize ([.ref q_t, .ref q_p0, .ref q_p1] : List Value).toArray = args at hts hws ⊢
  generalize hQ : MQ below _ _ _ _ _ _ = Q
  have hj_33 : ∀ (ih : Nat → Nat → Nat → Option (Nat)) (IH : (∀ (l3 l4 y_p1_closings : Nat) (H : Heap) (locs : List Loc) (ls : Array Slot), ih l3 l4 y_p1_closings = some r → lv_has ls 5 [(1, .ref q_p0), (2, .ref q_p1), (3, .int (nI l3)), (4, .int (nI l4))] → va_P (dC, dI) vwCl ((w_BR K q_t) ++ (wArr K 20 q_p0 f_p0 z_p0) ++ (w_WD K q_p1 q_p1_bits q_p1_closings f_p1_bits f_p1_closings z_p1_bits y_p1_closings z_p1_pairs)) H → va_D A ((w_BR K q_t) ++ (wArr K 20 q_p0 f_p0 z_p0) ++ (w_WD K q_p1 q_p1_bits q_p1_closings f_p1_bits f_p1_closings z_p1_bits y_p1_closings z_p1_pairs)) → va_S A s.heap H locs → W p l e (headSpec wc_BR_read rm_BR_read).room s m args below meth c H locs 0 0 Q (F0 m 5 ls []))), ∀ (l3 l4 y_p1_closings : Nat) (H : Heap) (locs : List Loc) (ls : Array Slot), j_BR_read_33 ih z_p0 z_p1_closings z_p1_pairs l3 l4 y_p1_closings = some r → lv_has ls 5 [(1, .ref q_p0), (2, .ref q_p1), (3, .int (nI l3)), (4, .int (nI l4))] → va_P (dC, dI) vwCl ((w_BR K q_t) ++ (wArr K 20 q_p0 f_p0 z_p0) ++ (w_WD K q_p1 q_p1_bits q_p1_closings f_p1_bits f_p1_closings z_p1_bits y_p1_closings z_p1_pairs)) H → va_D A ((w_BR K q_t) ++ (wArr K 20 q_p0 f_p0 z_p0) ++ (w_WD K q_p1 q_p1_bits q_p1_closings f_p1_bits f_p1_closings z_p1_bits y_p1_closings z_p1_pairs)) → va_S A s.heap H locs → W p l e (headSpec wc_BR_read rm_BR_read).room s m args below meth c H locs 0 0 Q (F0 m 33 ls []) := by
    intro ih IH l3 l4 y_p1_closings H locs ls hf hl hP hD hS
    unfold j_BR_read_33 at hf
    refine lx_iinc (k := 3) (d := 1) hx hb dBR_read_33 hl rfl (by decide +kernel) (by decide) rfl (fun ls hl => ?_)
    refine lv_goto (tgt := 5) hx hb dBR_read_36 (by decide) ?_
    have hf := fz_s hf
    exact IH l3 (iA l4 1) y_p1_closings _ _ _ hf (lv_sub hl [1, 2, 3, 0] rfl) hP hD hS
  have hb_5 : ∀ (ih : Nat → Nat → Nat → Option (Nat)) (IH : (∀ (l3 l4 y_p1_closings : Nat) (H : Heap) (locs : List Loc) (ls : Array Slot), ih l3 l4 y_p1_closings = some r → lv_has ls 5 [(1, .ref q_p0), (2, .ref q_p1), (3, .int (nI l3)), (4, .int (nI l4))] → va_P (dC, dI) vwCl ((w_BR K q_t) ++ (wArr K 20 q_p0 f_p0 z_p0) ++ (w_WD K q_p1 q_p1_bits q_p1_closings f_p1_bits f_p1_closings z_p1_bits y_p1_closings z_p1_pairs)) H → va_D A ((w_BR K q_t) ++ (wArr K 20 q_p0 f_p0 z_p0) ++ (w_WD K q_p1 q_p1_bits q_p1_closings f_p1_bits f_p1_closings z_p1_bits y_p1_closings z_p1_pairs)) → va_S A s.heap H locs → W p l e (headSpec wc_BR_read rm_BR_read).room s m args below meth c H locs 0 0 Q (F0 m 5 ls []))), ∀ (l3 l4 y_p1_closings : Nat) (H : Heap) (locs : List Loc) (ls : Array Slot), b_BR_read_5 ih z_p0 z_p1_closings z_p1_pairs l3 l4 y_p1_closings = some r → lv_has ls 5 [(1, .ref q_p0), (2, .ref q_p1), (3, .int (nI l3)), (4, .int (nI l4))] → va_P (dC, dI) vwCl ((w_BR K q_t) ++ (wArr K 20 q_p0 f_p0 z_p0) ++ (w_WD K q_p1 q_p1_bits q_p1_closings f_p1_bits f_p1_closings z_p1_bits y_p1_closings z_p1_pairs)) H → va_D A ((w_BR K q_t) ++ (wArr K 20 q_p0 f_p0 z_p0) ++ (w_WD K q_p1 q_p1_bits q_p1_closings f_p1_bits f_p1_closings z_p1_bits y_p1_closings z_p1_pairs)) → va_S A s.heap H locs → W p l e (headSpec wc_BR_read rm_BR_read).room s m args below meth c H locs 0 0 Q (F0 m 5 ls []) := by
    intro ih IH l3 l4 y_p1_closings H locs ls hf hl hP hD hS
    unfold b_BR_read_5 at hf
    refine lv_iload hx hb dBR_read_5 (lv_at hl 3 rfl) ?_
    refine lv_aload_n hx hb dBR_read_7 rfl (lv_at hl 1 rfl) ?_
    obtain ⟨q1, hq, hf⟩ := bd_s hf
    refine ct_callr (ws' := (w_BR K q_t) ++ (wArr K 20 q_p0 f_p0 z_p0) ++ (w_WD K q_p1 q_p1_bits q_p1_closings f_p1_bits f_p1_closings z_p1_bits y_p1_closings z_p1_pairs)) (va_runV (As := []) (rest := [.int (nI l4)]) ⟨hx, hb, hml, hown, hws⟩ (ct_WD_length l dC dI K q_p1 q_p1_bits q_p1_closings f_p1_bits f_p1_closings z_p1_bits y_p1_closings z_p1_pairs q1 hq _) ⟨cb_WD_length hws rm_WD_length (hws _ km_BR_7) ⟨Nat.le_of_ble_eq_true rfl, Nat.le_of_ble_eq_true rfl⟩, hws _ ki_WD_length, hws _ ke_WD_WD_length_WD_length⟩ ⟨ct_blind _ _ _, va_recv (ci := 8) (q0 := 2) (q := (RWD, TWD, 3)) hK hP rfl rfl, ct_pre (cs := (w_WD K q_p1 q_p1_bits q_p1_closings f_p1_bits f_p1_closings z_p1_bits y_p1_closings z_p1_pairs)) hP hD hK [2, 3, 4] (by decide) rfl _⟩ rfl rfl hl.1 rfl (lv_room (Nat.le_of_ble_eq_true rfl)) dBR_read_8 ⟨Nat.le_of_ble_eq_true rfl, Nat.le_of_ble_eq_true rfl⟩) hP hD hS hA [2, 3, 4] rfl rfl rfl rfl (fun H locs hP hD hS => ?_)
    refine lx_icmp_ge (tgt := 39) hx hb dBR_read_11 (by decide) hf (fun hf => ?_) (fun hf => ?_)
    · obtain rfl := Option.some.inj hf
      rw [← hQ]
      exact W.vret hx hb hr (fun t ht hW => ⟨⟨rfl, by rw [ht]; exact hP⟩, hS.F ht⟩) hS.2.2 dBR_read_39
    · refine lv_aload_n hx hb dBR_read_14 rfl (lv_at hl 0 rfl) ?_
      refine lv_iload hx hb dBR_read_15 (lv_at hl 3 rfl) ?_
      refine lx_iald hx hb hK hP 1 0 rfl rfl (by decide) dBR_read_17 hf (fun v2 _ hf => ?_)
      refine lv_iconst (v := nI 1) hx hb dBR_read_18 (by decide +kernel) ?_
      refine lx_icmp_ne (tgt := 28) hx hb dBR_read_19 (by decide) hf (fun hf => ?_) (fun hf => ?_)
      · refine lv_aload_n hx hb dBR_read_28 rfl (lv_at hl 1 rfl) ?_
        refine lv_iload_n hx hb dBR_read_29 rfl (lv_at hl 2 rfl) ?_
        obtain ⟨q3, hq, hf⟩ := bd_s hf
        refine ct_callv (ws' := (w_BR K q_t) ++ (wArr K 20 q_p0 f_p0 z_p0) ++ (w_WD K q_p1 q_p1_bits q_p1_closings f_p1_bits f_p1_closings z_p1_bits q3 z_p1_pairs)) (va_runV (As := [.int (nI l3)]) (rest := []) ⟨hx, hb, hml, hown, hws⟩ (ct_WD_closeAfter l dC dI K q_p1 q_p1_bits q_p1_closings f_p1_bits f_p1_closings l3 z_p1_bits y_p1_closings z_p1_pairs q3 hq _) ⟨cb_WD_closeAfter hws rm_WD_closeAfter (hws _ km_BR_17) ⟨Nat.le_of_ble_eq_true rfl, Nat.le_of_ble_eq_true rfl⟩, hws _ ki_WD_closeAfter, hws _ ke_WD_WD_closeAfter_WD_closeAfter⟩ ⟨ct_blind _ _ _, va_recv (ci := 8) (q0 := 2) (q := (RWD, TWD, 3)) hK hP rfl rfl, ct_pre (cs := (w_WD K q_p1 q_p1_bits q_p1_closings f_p1_bits f_p1_closings z_p1_bits y_p1_closings z_p1_pairs)) hP hD hK [2, 3, 4] (by decide) rfl _⟩ rfl rfl hl.1 rfl (lv_room (Nat.le_of_ble_eq_true rfl)) dBR_read_30 ⟨Nat.le_of_ble_eq_true rfl, Nat.le_of_ble_eq_true rfl⟩) hP hD hS hA [2, 3, 4] rfl rfl rfl rfl (fun H locs hP hD hS => ?_)
        have hP : va_P (dC, dI) vwCl ((w_BR K q_t) ++ (wArr K 20 q_p0 f_p0 z_p0) ++ (w_WD K q_p1 q_p1_bits q_p1_closings f_p1_bits f_p1_closings z_p1_bits q3 z_p1_pairs)) H := hP
        have hD : va_D A ((w_BR K q_t) ++ (wArr K 20 q_p0 f_p0 z_p0) ++ (w_WD K q_p1 q_p1_bits q_p1_closings f_p1_bits f_p1_closings z_p1_bits q3 z_p1_pairs)) := hD
        exact hj_33 _ IH l3 l4 q3 _ _ _ hf (lv_sub hl [0, 1, 2, 3] rfl) hP hD hS
      · refine lx_iinc (k := 2) (d := 1) hx hb dBR_read_22 hl rfl (by decide +kernel) (by decide) rfl (fun ls hl => ?_)
        refine lv_goto (tgt := 33) hx hb dBR_read_25 (by decide) ?_
        have hf := fz_s hf
        exact hj_33 _ IH (iA l3 1) l4 y_p1_closings _ _ _ hf (lv_sub hl [1, 2, 0, 3] rfl) hP hD hS
  have key : ∀ k : Nat, (∀ (l3 l4 y_p1_closings : Nat) (H : Heap) (locs : List Loc) (ls : Array Slot), fr_BR_read z_p0 z_p1_closings z_p1_pairs k l3 l4 y_p1_closings = some r → lv_has ls 5 [(1, .ref q_p0), (2, .ref q_p1), (3, .int (nI l3)), (4, .int (nI l4))] → va_P (dC, dI) vwCl ((w_BR K q_t) ++ (wArr K 20 q_p0 f_p0 z_p0) ++ (w_WD K q_p1 q_p1_bits q_p1_closings f_p1_bits f_p1_closings z_p1_bits y_p1_closings z_p1_pairs)) H → va_D A ((w_BR K q_t) ++ (wArr K 20 q_p0 f_p0 z_p0) ++ (w_WD K q_p1 q_p1_bits q_p1_closings f_p1_bits f_p1_closings z_p1_bits y_p1_closings z_p1_pairs)) → va_S A s.heap H locs → W p l e (headSpec wc_BR_read rm_BR_read).room s m args below meth c H locs 0 0 Q (F0 m 5 ls [])) := by
    intro k
    induction k with
    | zero => exact fun l3 l4 y_p1_closings H locs ls hf _ _ _ _ => no_s (α := Nat) (r := r) hf
    | succ k IH => exact fun l3 l4 y_p1_closings H locs ls hf => hb_5 (fr_BR_read z_p0 z_p1_closings z_p1_pairs k) IH l3 l4 y_p1_closings H locs ls ((frs_BR_read_5 z_p0 z_p1_closings z_p1_pairs k l3 l4 y_p1_closings).symm.trans hf)
  have IH := key 1000000
  have hf : e_BR_read (fr_BR_read z_p0 z_p1_closings z_p1_pairs 1000000) z_p0 z_p1_closings z_p1_pairs = some r := hf
  unfold e_BR_read at hf
  generalize fr_BR_read z_p0 z_p1_closings z_p1_pairs 1000000 = ih at hf IH
  refine lv_iconst (v := nI 0) hx hb dBR_read_0 (by decide +kernel) ?_
  refine lv_istore_n hx hb dBR_read_1 rfl hl (by decide) rfl (fun ls hl => ?_)
  refine lv_iconst (v := nI 0) hx hb dBR_read_2 (by decide +kernel) ?_
  refine lv_istore hx hb dBR_read_3 hl (by decide) rfl (fun ls hl => ?_)
  exact IH 0 0 z_p1_closings _ _ _ hf (lv_sub hl [3, 4, 1, 0] rfl) hP hD hS
noncomputable def f_BT_nodeAt (x1 : Nat) (z_p0_bits : Nat) (z_p0_pairs : Nat) : Option (Nat) := (Option.bind (f_WD_isOne x1 z_p0_bits z_p0_pairs) (fun q1 => (bif iEq q1 0 then some 4294967295 else (Option.bind (f_WD_onesBefore x1 z_p0_bits z_p0_pairs) (fun q2 => some q2)))))
abbrev rm_BT_nodeAt : Room := { frames := 2, cells := 0, slots := 0, locals := 43 }
set_option maxHeartbeats 4000000 in
set_option maxRecDepth 100000 in
theorem ct_BT_nodeAt (l : Launch) (dC : Nat → ClassId) (dI : Nat → Nat → Nat) (K : Nat → ClassId) (q_p0 : Nat) (q_p0_bits : Nat) (q_p0_closings : Nat) (f_p0_bits : Nat → Int32) (f_p0_closings : Nat → Int32) (x1 : Nat) (z_p0_bits : Nat) (z_p0_closings : Nat) (z_p0_pairs : Nat) (r : Nat) (hf : f_BT_nodeAt x1 z_p0_bits z_p0_pairs = some r) : Ct l (dC, dI) vwCl yBT_nodeAt wc_BT_nodeAt rm_BT_nodeAt (tyK K) [.ref q_p0, .int (nI x1)] (w_WD K q_p0 q_p0_bits q_p0_closings f_p0_bits f_p0_closings z_p0_bits z_p0_closings z_p0_pairs) (w_WD K q_p0 q_p0_bits q_p0_closings f_p0_bits f_p0_closings z_p0_bits z_p0_closings z_p0_pairs) (some (.int (nI r))) := by
  intro sz
  refine Met.ofW (cc := cBT_nodeAt) (maxL := 2) (ret := (some .int)) (by decide) rfl ?_
  intro p e s m args below meth c s₁ B hml hv
  obtain ⟨rfl, hsz, hP, hK, hD0⟩ := hv
  have hx := B.exec
  have hb := B.bytes
  have hr := B.returns
  have hts := atoms_spec (ws := wc_BT_nodeAt) B.pre
  have hws : ∀ w ∈ WS, w.before _ s = true := fun w h => hts w (List.mem_cons_of_mem _ h)
  have hown : s.vm.findClass RBT = some m.cls := findClass_of_methodNamed B.named
  have hlocks := B.notSynchronized
  subst hsz
  have hD := hD0.self (sz := s.heap.size)
  generalize hAe : va_A (w_WD K q_p0 q_p0_bits q_p0_closings f_p0_bits f_p0_closings z_p0_bits z_p0_closings z_p0_pairs) s.heap.size = A at hD ⊢
  have hA : ∀ q : Nat, s.heap.size ≤ q → A q := fun q h => by rw [← hAe]; exact Or.inr h
  have hS : va_S A s.heap s.heap [] := va_S.rf
  have hl := lv_entry ([.ref q_p0, .int (nI x1)]) (n := 2) (Nat.le_of_ble_eq_true rfl)
  rw [lg_entry_eq]
  generalize (lg_sl ([.ref q_p0, .int (nI x1)]) ++ List.replicate (2 - (lg_sl ([.ref q_p0, .int (nI x1)])).length) Slot.unset).toArray = ls at hl ⊢
  have hl : lv_has ls 2 [(0, .ref q_p0), (1, .int (nI x1))] := hl
  generalize ([.ref q_p0, .int (nI x1)] : List Value).toArray = args at hts hws ⊢
  generalize hQ : MQ below _ _ _ _ _ _ = Q
  unfold f_BT_nodeAt at hf
  refine lv_aload_n hx hb dBT_nodeAt_0 rfl (lv_at hl 0 rfl) ?_
  refine lv_iload_n hx hb dBT_nodeAt_1 rfl (lv_at hl 1 rfl) ?_
  obtain ⟨q1, hq, hf⟩ := bd_s hf
  refine ct_callr (ws' := w_WD K q_p0 q_p0_bits q_p0_closings f_p0_bits f_p0_closings z_p0_bits z_p0_closings z_p0_pairs) (va_runV (As := [.int (nI x1)]) (rest := []) ⟨hx, hb, hml, hown, hws⟩ (ct_WD_isOne l dC dI K q_p0 q_p0_bits q_p0_closings f_p0_bits f_p0_closings x1 z_p0_bits z_p0_closings z_p0_pairs q1 hq _) ⟨cb_WD_isOne hws rm_WD_isOne (hws _ km_BT_21) ⟨Nat.le_of_ble_eq_true rfl, Nat.le_of_ble_eq_true rfl⟩, hws _ ki_WD_isOne, hws _ ke_WD_WD_isOne_WD_isOne⟩ ⟨ct_blind _ _ _, va_recv (ci := 8) (q0 := 0) (q := (RWD, TWD, 3)) hK hP rfl rfl, ct_pre (cs := (w_WD K q_p0 q_p0_bits q_p0_closings f_p0_bits f_p0_closings z_p0_bits z_p0_closings z_p0_pairs)) hP hD hK [0, 1, 2] (by decide) rfl _⟩ rfl rfl hl.1 rfl (lv_room (Nat.le_of_ble_eq_true rfl)) dBT_nodeAt_2 ⟨Nat.le_of_ble_eq_true rfl, Nat.le_of_ble_eq_true rfl⟩) hP hD hS hA [0, 1, 2] rfl rfl rfl rfl (fun H locs hP hD hS => ?_)
  refine lx_if_eq (tgt := 16) hx hb dBT_nodeAt_5 (by decide) hf (fun hf => ?_) (fun hf => ?_)
  · refine lv_iconst (v := nI 4294967295) hx hb dBT_nodeAt_16 (by decide +kernel) ?_
    obtain rfl := Option.some.inj hf
    rw [← hQ]
    exact W.iret (v := nI 4294967295) hx hb hr (fun t ht hW => ⟨⟨rfl, by rw [ht]; exact hP⟩, hS.F ht⟩) hS.2.2 dBT_nodeAt_17
  · refine lv_aload_n hx hb dBT_nodeAt_8 rfl (lv_at hl 0 rfl) ?_
    refine lv_iload_n hx hb dBT_nodeAt_9 rfl (lv_at hl 1 rfl) ?_
    obtain ⟨q2, hq, hf⟩ := bd_s hf
    refine ct_callr (ws' := w_WD K q_p0 q_p0_bits q_p0_closings f_p0_bits f_p0_closings z_p0_bits z_p0_closings z_p0_pairs) (va_runV (As := [.int (nI x1)]) (rest := []) ⟨hx, hb, hml, hown, hws⟩ (ct_WD_onesBefore l dC dI K q_p0 q_p0_bits q_p0_closings f_p0_bits f_p0_closings x1 z_p0_bits z_p0_closings z_p0_pairs q2 hq _) ⟨cb_WD_onesBefore hws rm_WD_onesBefore (hws _ km_BT_33) ⟨Nat.le_of_ble_eq_true rfl, Nat.le_of_ble_eq_true rfl⟩, hws _ ki_WD_onesBefore, hws _ ke_WD_WD_onesBefore_WD_onesBefore⟩ ⟨ct_blind _ _ _, va_recv (ci := 8) (q0 := 0) (q := (RWD, TWD, 3)) hK hP rfl rfl, ct_pre (cs := (w_WD K q_p0 q_p0_bits q_p0_closings f_p0_bits f_p0_closings z_p0_bits z_p0_closings z_p0_pairs)) hP hD hK [0, 1, 2] (by decide) rfl _⟩ rfl rfl hl.1 rfl (lv_room (Nat.le_of_ble_eq_true rfl)) dBT_nodeAt_10 ⟨Nat.le_of_ble_eq_true rfl, Nat.le_of_ble_eq_true rfl⟩) hP hD hS hA [0, 1, 2] rfl rfl rfl rfl (fun H locs hP hD hS => ?_)
    refine lv_goto (tgt := 17) hx hb dBT_nodeAt_13 (by decide) ?_
    obtain rfl := Option.some.inj hf
    rw [← hQ]
    exact W.iret (v := nI q2) hx hb hr (fun t ht hW => ⟨⟨rfl, by rw [ht]; exact hP⟩, hS.F ht⟩) hS.2.2 dBT_nodeAt_17
noncomputable def j_BT_write_60 (ih : Nat → Nat → Nat → Option (Nat)) (z_p0_bits : Nat) (z_p0_pairs : Nat) (z_p1 : Nat) (l3 : Nat) (l4 : Nat) (y_p1 : Nat) : Option (Nat) := (fz (iA l4 1) (fun u8 => ih l3 u8 y_p1))
noncomputable def b_BT_write_5 (ih : Nat → Nat → Nat → Option (Nat)) (z_p0_bits : Nat) (z_p0_pairs : Nat) (z_p1 : Nat) (l3 : Nat) (l4 : Nat) (y_p1 : Nat) : Option (Nat) := (Option.bind (f_WD_length z_p0_pairs) (fun q1 => (bif iLt l4 q1 then (Option.bind (f_WD_isOne l4 z_p0_bits z_p0_pairs) (fun q2 => (bif iEq q2 0 then (j_BT_write_60 ih z_p0_bits z_p0_pairs z_p1 l3 l4 y_p1) else (Option.bind (f_BT_nodeAt (iA l4 1) z_p0_bits z_p0_pairs) (fun q3 => (bif Nat.blt (iM 2 l3) 20 then (Option.bind (f_WD_fall (iA l4 1) z_p0_bits z_p0_pairs) (fun q4 => (Option.bind (f_BT_nodeAt (iA q4 1) z_p0_bits z_p0_pairs) (fun q5 => (bif Nat.blt (iA (iM 2 l3) 1) 20 then (fz (iA l3 1) (fun u6 => fz (aw (aw y_p1 (iM 2 l3) q3) (iA (iM 2 l3) 1) q5) (fun u7 => j_BT_write_60 ih z_p0_bits z_p0_pairs z_p1 u6 l4 u7))) else none))))) else none)))))) else some y_p1)))
noncomputable def fr_BT_write (z_p0_bits : Nat) (z_p0_pairs : Nat) (z_p1 : Nat) (k : Nat) : Nat → Nat → Nat → Option (Nat) := Nat.rec (motive := fun _ => Nat → Nat → Nat → Option (Nat)) (fun _ _ _ => none) (fun _ ih a0 a1 a2 => b_BT_write_5 ih z_p0_bits z_p0_pairs z_p1 a0 a1 a2) k
theorem frs_BT_write_5 (z_p0_bits : Nat) (z_p0_pairs : Nat) (z_p1 : Nat) (k : Nat) (l3 : Nat) (l4 : Nat) (y_p1 : Nat) : fr_BT_write z_p0_bits z_p0_pairs z_p1 (k + 1) l3 l4 y_p1 = b_BT_write_5 (fr_BT_write z_p0_bits z_p0_pairs z_p1 k) z_p0_bits z_p0_pairs z_p1 l3 l4 y_p1 := rfl
noncomputable def e_BT_write (ih : Nat → Nat → Nat → Option (Nat)) (z_p0_bits : Nat) (z_p0_pairs : Nat) (z_p1 : Nat) : Option (Nat) := (ih 0 0 z_p1)
noncomputable def f_BT_write (z_p0_bits : Nat) (z_p0_pairs : Nat) (z_p1 : Nat) : Option (Nat) := e_BT_write (fr_BT_write z_p0_bits z_p0_pairs z_p1 1000000) z_p0_bits z_p0_pairs z_p1
abbrev rm_BT_write : Room := { frames := 3, cells := 0, slots := 0, locals := 64 }
set_option maxHeartbeats 4000000 in
set_option maxRecDepth 100000 in
theorem ct_BT_write (l : Launch) (dC : Nat → ClassId) (dI : Nat → Nat → Nat) (K : Nat → ClassId) (q_t : Nat) (q_t_ends : Nat) (q_p0 : Nat) (q_p0_bits : Nat) (q_p0_closings : Nat) (q_p1 : Nat) (f_t_ends : Nat → Int32) (f_p0_bits : Nat → Int32) (f_p0_closings : Nat → Int32) (f_p1 : Nat → Int32) (z_t_ends : Nat) (z_p0_bits : Nat) (z_p0_closings : Nat) (z_p0_pairs : Nat) (z_p1 : Nat) (r : Nat) (hf : f_BT_write z_p0_bits z_p0_pairs z_p1 = some r) : Ct l (dC, dI) vwCl yBT_write wc_BT_write rm_BT_write (tyK K) [.ref q_t, .ref q_p0, .ref q_p1] ((w_BT K q_t q_t_ends f_t_ends z_t_ends) ++ (w_WD K q_p0 q_p0_bits q_p0_closings f_p0_bits f_p0_closings z_p0_bits z_p0_closings z_p0_pairs) ++ (wArr K 20 q_p1 f_p1 z_p1)) ((w_BT K q_t q_t_ends f_t_ends z_t_ends) ++ (w_WD K q_p0 q_p0_bits q_p0_closings f_p0_bits f_p0_closings z_p0_bits z_p0_closings z_p0_pairs) ++ (wArr K 20 q_p1 f_p1 r)) none := by
  intro sz
  refine Met.ofW (cc := cBT_write) (maxL := 5) (ret := none) (by decide) rfl ?_
  intro p e s m args below meth c s₁ B hml hv
  obtain ⟨rfl, hsz, hP, hK, hD0⟩ := hv
  have hx := B.exec
  have hb := B.bytes
  have hr := B.returns
  have hts := atoms_spec (ws := wc_BT_write) B.pre
  have hws : ∀ w ∈ WS, w.before _ s = true := fun w h => hts w (List.mem_cons_of_mem _ h)
  have hown : s.vm.findClass RBT = some m.cls := findClass_of_methodNamed B.named
  have hlocks := B.notSynchronized
  subst hsz
  have hD := hD0.self (sz := s.heap.size)
  generalize hAe : va_A ((w_BT K q_t q_t_ends f_t_ends z_t_ends) ++ (w_WD K q_p0 q_p0_bits q_p0_closings f_p0_bits f_p0_closings z_p0_bits z_p0_closings z_p0_pairs) ++ (wArr K 20 q_p1 f_p1 z_p1)) s.heap.size = A at hD ⊢
  have hA : ∀ q : Nat, s.heap.size ≤ q → A q := fun q h => by rw [← hAe]; exact Or.inr h
  have hS : va_S A s.heap s.heap [] := va_S.rf
  have hl := lv_entry ([.ref q_t, .ref q_p0, .ref q_p1]) (n := 5) (Nat.le_of_ble_eq_true rfl)
  rw [lg_entry_eq]
  generalize (lg_sl ([.ref q_t, .ref q_p0, .ref q_p1]) ++ List.replicate (5 - (lg_sl ([.ref q_t, .ref q_p0, .ref q_p1])).length) Slot.unset).toArray = ls at hl ⊢
  have hl : lv_has ls 5 [(0, .ref q_t), (1, .ref q_p0), (2, .ref q_p1)] := hl
  generalize ([.ref q_t, .ref q_p0, .ref q_p1] : List Value).toArray = args at hts hws ⊢
  generalize hQ : MQ below _ _ _ _ _ _ = Q
  have hj_60 : ∀ (ih : Nat → Nat → Nat → Option (Nat)) (IH : (∀ (l3 l4 y_p1 : Nat) (H : Heap) (locs : List Loc) (ls : Array Slot), ih l3 l4 y_p1 = some r → lv_has ls 5 [(1, .ref q_p0), (2, .ref q_p1), (3, .int (nI l3)), (4, .int (nI l4))] → va_P (dC, dI) vwCl ((w_BT K q_t q_t_ends f_t_ends z_t_ends) ++ (w_WD K q_p0 q_p0_bits q_p0_closings f_p0_bits f_p0_closings z_p0_bits z_p0_closings z_p0_pairs) ++ (wArr K 20 q_p1 f_p1 y_p1)) H → va_D A ((w_BT K q_t q_t_ends f_t_ends z_t_ends) ++ (w_WD K q_p0 q_p0_bits q_p0_closings f_p0_bits f_p0_closings z_p0_bits z_p0_closings z_p0_pairs) ++ (wArr K 20 q_p1 f_p1 y_p1)) → va_S A s.heap H locs → W p l e (headSpec wc_BT_write rm_BT_write).room s m args below meth c H locs 0 0 Q (F0 m 5 ls []))), ∀ (l3 l4 y_p1 : Nat) (H : Heap) (locs : List Loc) (ls : Array Slot), j_BT_write_60 ih z_p0_bits z_p0_pairs z_p1 l3 l4 y_p1 = some r → lv_has ls 5 [(1, .ref q_p0), (2, .ref q_p1), (3, .int (nI l3)), (4, .int (nI l4))] → va_P (dC, dI) vwCl ((w_BT K q_t q_t_ends f_t_ends z_t_ends) ++ (w_WD K q_p0 q_p0_bits q_p0_closings f_p0_bits f_p0_closings z_p0_bits z_p0_closings z_p0_pairs) ++ (wArr K 20 q_p1 f_p1 y_p1)) H → va_D A ((w_BT K q_t q_t_ends f_t_ends z_t_ends) ++ (w_WD K q_p0 q_p0_bits q_p0_closings f_p0_bits f_p0_closings z_p0_bits z_p0_closings z_p0_pairs) ++ (wArr K 20 q_p1 f_p1 y_p1)) → va_S A s.heap H locs → W p l e (headSpec wc_BT_write rm_BT_write).room s m args below meth c H locs 0 0 Q (F0 m 60 ls []) := by
    intro ih IH l3 l4 y_p1 H locs ls hf hl hP hD hS
    unfold j_BT_write_60 at hf
    refine lx_iinc (k := 3) (d := 1) hx hb dBT_write_60 hl rfl (by decide +kernel) (by decide) rfl (fun ls hl => ?_)
    refine lv_goto (tgt := 5) hx hb dBT_write_63 (by decide) ?_
    have hf := fz_s hf
    exact IH l3 (iA l4 1) y_p1 _ _ _ hf (lv_sub hl [1, 2, 3, 0] rfl) hP hD hS
  have hb_5 : ∀ (ih : Nat → Nat → Nat → Option (Nat)) (IH : (∀ (l3 l4 y_p1 : Nat) (H : Heap) (locs : List Loc) (ls : Array Slot), ih l3 l4 y_p1 = some r → lv_has ls 5 [(1, .ref q_p0), (2, .ref q_p1), (3, .int (nI l3)), (4, .int (nI l4))] → va_P (dC, dI) vwCl ((w_BT K q_t q_t_ends f_t_ends z_t_ends) ++ (w_WD K q_p0 q_p0_bits q_p0_closings f_p0_bits f_p0_closings z_p0_bits z_p0_closings z_p0_pairs) ++ (wArr K 20 q_p1 f_p1 y_p1)) H → va_D A ((w_BT K q_t q_t_ends f_t_ends z_t_ends) ++ (w_WD K q_p0 q_p0_bits q_p0_closings f_p0_bits f_p0_closings z_p0_bits z_p0_closings z_p0_pairs) ++ (wArr K 20 q_p1 f_p1 y_p1)) → va_S A s.heap H locs → W p l e (headSpec wc_BT_write rm_BT_write).room s m args below meth c H locs 0 0 Q (F0 m 5 ls []))), ∀ (l3 l4 y_p1 : Nat) (H : Heap) (locs : List Loc) (ls : Array Slot), b_BT_write_5 ih z_p0_bits z_p0_pairs z_p1 l3 l4 y_p1 = some r → lv_has ls 5 [(1, .ref q_p0), (2, .ref q_p1), (3, .int (nI l3)), (4, .int (nI l4))] → va_P (dC, dI) vwCl ((w_BT K q_t q_t_ends f_t_ends z_t_ends) ++ (w_WD K q_p0 q_p0_bits q_p0_closings f_p0_bits f_p0_closings z_p0_bits z_p0_closings z_p0_pairs) ++ (wArr K 20 q_p1 f_p1 y_p1)) H → va_D A ((w_BT K q_t q_t_ends f_t_ends z_t_ends) ++ (w_WD K q_p0 q_p0_bits q_p0_closings f_p0_bits f_p0_closings z_p0_bits z_p0_closings z_p0_pairs) ++ (wArr K 20 q_p1 f_p1 y_p1)) → va_S A s.heap H locs → W p l e (headSpec wc_BT_write rm_BT_write).room s m args below meth c H locs 0 0 Q (F0 m 5 ls []) := by
    intro ih IH l3 l4 y_p1 H locs ls hf hl hP hD hS
    unfold b_BT_write_5 at hf
    refine lv_iload hx hb dBT_write_5 (lv_at hl 3 rfl) ?_
    refine lv_aload_n hx hb dBT_write_7 rfl (lv_at hl 0 rfl) ?_
    obtain ⟨q1, hq, hf⟩ := bd_s hf
    refine ct_callr (ws' := (w_BT K q_t q_t_ends f_t_ends z_t_ends) ++ (w_WD K q_p0 q_p0_bits q_p0_closings f_p0_bits f_p0_closings z_p0_bits z_p0_closings z_p0_pairs) ++ (wArr K 20 q_p1 f_p1 y_p1)) (va_runV (As := []) (rest := [.int (nI l4)]) ⟨hx, hb, hml, hown, hws⟩ (ct_WD_length l dC dI K q_p0 q_p0_bits q_p0_closings f_p0_bits f_p0_closings z_p0_bits z_p0_closings z_p0_pairs q1 hq _) ⟨cb_WD_length hws rm_WD_length (hws _ km_BT_15) ⟨Nat.le_of_ble_eq_true rfl, Nat.le_of_ble_eq_true rfl⟩, hws _ ki_WD_length, hws _ ke_WD_WD_length_WD_length⟩ ⟨ct_blind _ _ _, va_recv (ci := 8) (q0 := 2) (q := (RWD, TWD, 3)) hK hP rfl rfl, ct_pre (cs := (w_WD K q_p0 q_p0_bits q_p0_closings f_p0_bits f_p0_closings z_p0_bits z_p0_closings z_p0_pairs)) hP hD hK [2, 3, 4] (by decide) rfl _⟩ rfl rfl hl.1 rfl (lv_room (Nat.le_of_ble_eq_true rfl)) dBT_write_8 ⟨Nat.le_of_ble_eq_true rfl, Nat.le_of_ble_eq_true rfl⟩) hP hD hS hA [2, 3, 4] rfl rfl rfl rfl (fun H locs hP hD hS => ?_)
    refine lx_icmp_ge (tgt := 66) hx hb dBT_write_11 (by decide) hf (fun hf => ?_) (fun hf => ?_)
    · obtain rfl := Option.some.inj hf
      rw [← hQ]
      exact W.vret hx hb hr (fun t ht hW => ⟨⟨rfl, by rw [ht]; exact hP⟩, hS.F ht⟩) hS.2.2 dBT_write_66
    · refine lv_aload_n hx hb dBT_write_14 rfl (lv_at hl 0 rfl) ?_
      refine lv_iload hx hb dBT_write_15 (lv_at hl 3 rfl) ?_
      obtain ⟨q2, hq, hf⟩ := bd_s hf
      refine ct_callr (ws' := (w_BT K q_t q_t_ends f_t_ends z_t_ends) ++ (w_WD K q_p0 q_p0_bits q_p0_closings f_p0_bits f_p0_closings z_p0_bits z_p0_closings z_p0_pairs) ++ (wArr K 20 q_p1 f_p1 y_p1)) (va_runV (As := [.int (nI l4)]) (rest := []) ⟨hx, hb, hml, hown, hws⟩ (ct_WD_isOne l dC dI K q_p0 q_p0_bits q_p0_closings f_p0_bits f_p0_closings l4 z_p0_bits z_p0_closings z_p0_pairs q2 hq _) ⟨cb_WD_isOne hws rm_WD_isOne (hws _ km_BT_21) ⟨Nat.le_of_ble_eq_true rfl, Nat.le_of_ble_eq_true rfl⟩, hws _ ki_WD_isOne, hws _ ke_WD_WD_isOne_WD_isOne⟩ ⟨ct_blind _ _ _, va_recv (ci := 8) (q0 := 2) (q := (RWD, TWD, 3)) hK hP rfl rfl, ct_pre (cs := (w_WD K q_p0 q_p0_bits q_p0_closings f_p0_bits f_p0_closings z_p0_bits z_p0_closings z_p0_pairs)) hP hD hK [2, 3, 4] (by decide) rfl _⟩ rfl rfl hl.1 rfl (lv_room (Nat.le_of_ble_eq_true rfl)) dBT_write_17 ⟨Nat.le_of_ble_eq_true rfl, Nat.le_of_ble_eq_true rfl⟩) hP hD hS hA [2, 3, 4] rfl rfl rfl rfl (fun H locs hP hD hS => ?_)
      refine lx_if_eq (tgt := 60) hx hb dBT_write_20 (by decide) hf (fun hf => ?_) (fun hf => ?_)
      · exact hj_60 _ IH l3 l4 y_p1 _ _ _ hf (lv_sub hl [0, 1, 2, 3] rfl) hP hD hS
      · refine lv_aload_n hx hb dBT_write_23 rfl (lv_at hl 1 rfl) ?_
        refine lv_iconst (v := nI 2) hx hb dBT_write_24 (by decide +kernel) ?_
        refine lv_iload_n hx hb dBT_write_25 rfl (lv_at hl 2 rfl) ?_
        refine lx_imul hx hb dBT_write_26 ?_
        refine lv_aload_n hx hb dBT_write_27 rfl (lv_at hl 0 rfl) ?_
        refine lv_iload hx hb dBT_write_28 (lv_at hl 3 rfl) ?_
        refine lv_iconst (v := nI 1) hx hb dBT_write_30 (by decide +kernel) ?_
        refine lx_iadd hx hb dBT_write_31 ?_
        obtain ⟨q3, hq, hf⟩ := bd_s hf
        refine ct_callr (ws' := (w_BT K q_t q_t_ends f_t_ends z_t_ends) ++ (w_WD K q_p0 q_p0_bits q_p0_closings f_p0_bits f_p0_closings z_p0_bits z_p0_closings z_p0_pairs) ++ (wArr K 20 q_p1 f_p1 y_p1)) (va_runS (As := [.ref q_p0, .int (nI (iA l4 1))]) (rest := [.int (nI (iM 2 l3)), .ref q_p1]) ⟨hx, hb, hml, hown, hws⟩ (ct_BT_nodeAt l dC dI K q_p0 q_p0_bits q_p0_closings f_p0_bits f_p0_closings (iA l4 1) z_p0_bits z_p0_closings z_p0_pairs q3 hq _) ⟨cb_BT_nodeAt hws rm_BT_nodeAt (hws _ km_BT_25) ⟨Nat.le_of_ble_eq_true rfl, Nat.le_of_ble_eq_true rfl⟩, hws _ ks_BT_nodeAt⟩ ⟨ct_blind _ _ _, ct_pre (cs := (w_WD K q_p0 q_p0_bits q_p0_closings f_p0_bits f_p0_closings z_p0_bits z_p0_closings z_p0_pairs)) hP hD hK [2, 3, 4] (by decide) rfl _⟩ rfl rfl hl.1 rfl (lv_room (Nat.le_of_ble_eq_true rfl)) dBT_write_32 ⟨Nat.le_of_ble_eq_true rfl, Nat.le_of_ble_eq_true rfl⟩) hP hD hS hA [2, 3, 4] rfl rfl rfl rfl (fun H locs hP hD hS => ?_)
        refine lx_iast hx hb hK hP hD hS 5 0 rfl rfl (by decide) dBT_write_35 hf (fun hf H locs hP hD hS => ?_)
        have hP : va_P (dC, dI) vwCl ((w_BT K q_t q_t_ends f_t_ends z_t_ends) ++ (w_WD K q_p0 q_p0_bits q_p0_closings f_p0_bits f_p0_closings z_p0_bits z_p0_closings z_p0_pairs) ++ (wArr K 20 q_p1 f_p1 (aw y_p1 (iM 2 l3) q3))) H := hP
        have hD : va_D A ((w_BT K q_t q_t_ends f_t_ends z_t_ends) ++ (w_WD K q_p0 q_p0_bits q_p0_closings f_p0_bits f_p0_closings z_p0_bits z_p0_closings z_p0_pairs) ++ (wArr K 20 q_p1 f_p1 (aw y_p1 (iM 2 l3) q3))) := hD
        refine lv_aload_n hx hb dBT_write_36 rfl (lv_at hl 1 rfl) ?_
        refine lv_iconst (v := nI 2) hx hb dBT_write_37 (by decide +kernel) ?_
        refine lv_iload_n hx hb dBT_write_38 rfl (lv_at hl 2 rfl) ?_
        refine lx_imul hx hb dBT_write_39 ?_
        refine lv_iconst (v := nI 1) hx hb dBT_write_40 (by decide +kernel) ?_
        refine lx_iadd hx hb dBT_write_41 ?_
        refine lv_aload_n hx hb dBT_write_42 rfl (lv_at hl 0 rfl) ?_
        refine lv_aload_n hx hb dBT_write_43 rfl (lv_at hl 0 rfl) ?_
        refine lv_iload hx hb dBT_write_44 (lv_at hl 3 rfl) ?_
        refine lv_iconst (v := nI 1) hx hb dBT_write_46 (by decide +kernel) ?_
        refine lx_iadd hx hb dBT_write_47 ?_
        obtain ⟨q4, hq, hf⟩ := bd_s hf
        refine ct_callr (ws' := (w_BT K q_t q_t_ends f_t_ends z_t_ends) ++ (w_WD K q_p0 q_p0_bits q_p0_closings f_p0_bits f_p0_closings z_p0_bits z_p0_closings z_p0_pairs) ++ (wArr K 20 q_p1 f_p1 (aw y_p1 (iM 2 l3) q3))) (va_runV (As := [.int (nI (iA l4 1))]) (rest := [.ref q_p0, .int (nI (iA (iM 2 l3) 1)), .ref q_p1]) ⟨hx, hb, hml, hown, hws⟩ (ct_WD_fall l dC dI K q_p0 q_p0_bits q_p0_closings f_p0_bits f_p0_closings (iA l4 1) z_p0_bits z_p0_closings z_p0_pairs q4 hq _) ⟨cb_WD_fall hws rm_WD_fall (hws _ km_BT_29) ⟨Nat.le_of_ble_eq_true rfl, Nat.le_of_ble_eq_true rfl⟩, hws _ ki_WD_fall, hws _ ke_WD_WD_fall_WD_fall⟩ ⟨ct_blind _ _ _, va_recv (ci := 8) (q0 := 2) (q := (RWD, TWD, 3)) hK hP rfl rfl, ct_pre (cs := (w_WD K q_p0 q_p0_bits q_p0_closings f_p0_bits f_p0_closings z_p0_bits z_p0_closings z_p0_pairs)) hP hD hK [2, 3, 4] (by decide) rfl _⟩ rfl rfl hl.1 rfl (lv_room (Nat.le_of_ble_eq_true rfl)) dBT_write_48 ⟨Nat.le_of_ble_eq_true rfl, Nat.le_of_ble_eq_true rfl⟩) hP hD hS hA [2, 3, 4] rfl rfl rfl rfl (fun H locs hP hD hS => ?_)
        refine lv_iconst (v := nI 1) hx hb dBT_write_51 (by decide +kernel) ?_
        refine lx_iadd hx hb dBT_write_52 ?_
        obtain ⟨q5, hq, hf⟩ := bd_s hf
        refine ct_callr (ws' := (w_BT K q_t q_t_ends f_t_ends z_t_ends) ++ (w_WD K q_p0 q_p0_bits q_p0_closings f_p0_bits f_p0_closings z_p0_bits z_p0_closings z_p0_pairs) ++ (wArr K 20 q_p1 f_p1 (aw y_p1 (iM 2 l3) q3))) (va_runS (As := [.ref q_p0, .int (nI (iA q4 1))]) (rest := [.int (nI (iA (iM 2 l3) 1)), .ref q_p1]) ⟨hx, hb, hml, hown, hws⟩ (ct_BT_nodeAt l dC dI K q_p0 q_p0_bits q_p0_closings f_p0_bits f_p0_closings (iA q4 1) z_p0_bits z_p0_closings z_p0_pairs q5 hq _) ⟨cb_BT_nodeAt hws rm_BT_nodeAt (hws _ km_BT_25) ⟨Nat.le_of_ble_eq_true rfl, Nat.le_of_ble_eq_true rfl⟩, hws _ ks_BT_nodeAt⟩ ⟨ct_blind _ _ _, ct_pre (cs := (w_WD K q_p0 q_p0_bits q_p0_closings f_p0_bits f_p0_closings z_p0_bits z_p0_closings z_p0_pairs)) hP hD hK [2, 3, 4] (by decide) rfl _⟩ rfl rfl hl.1 rfl (lv_room (Nat.le_of_ble_eq_true rfl)) dBT_write_53 ⟨Nat.le_of_ble_eq_true rfl, Nat.le_of_ble_eq_true rfl⟩) hP hD hS hA [2, 3, 4] rfl rfl rfl rfl (fun H locs hP hD hS => ?_)
        refine lx_iast hx hb hK hP hD hS 5 0 rfl rfl (by decide) dBT_write_56 hf (fun hf H locs hP hD hS => ?_)
        have hP : va_P (dC, dI) vwCl ((w_BT K q_t q_t_ends f_t_ends z_t_ends) ++ (w_WD K q_p0 q_p0_bits q_p0_closings f_p0_bits f_p0_closings z_p0_bits z_p0_closings z_p0_pairs) ++ (wArr K 20 q_p1 f_p1 (aw (aw y_p1 (iM 2 l3) q3) (iA (iM 2 l3) 1) q5))) H := hP
        have hD : va_D A ((w_BT K q_t q_t_ends f_t_ends z_t_ends) ++ (w_WD K q_p0 q_p0_bits q_p0_closings f_p0_bits f_p0_closings z_p0_bits z_p0_closings z_p0_pairs) ++ (wArr K 20 q_p1 f_p1 (aw (aw y_p1 (iM 2 l3) q3) (iA (iM 2 l3) 1) q5))) := hD
        refine lx_iinc (k := 2) (d := 1) hx hb dBT_write_57 hl rfl (by decide +kernel) (by decide) rfl (fun ls hl => ?_)
        have hf := fz_s hf
        have hf := fz_s hf
        exact hj_60 _ IH (iA l3 1) l4 (aw (aw y_p1 (iM 2 l3) q3) (iA (iM 2 l3) 1) q5) _ _ _ hf (lv_sub hl [1, 2, 0, 3] rfl) hP hD hS
  have key : ∀ k : Nat, (∀ (l3 l4 y_p1 : Nat) (H : Heap) (locs : List Loc) (ls : Array Slot), fr_BT_write z_p0_bits z_p0_pairs z_p1 k l3 l4 y_p1 = some r → lv_has ls 5 [(1, .ref q_p0), (2, .ref q_p1), (3, .int (nI l3)), (4, .int (nI l4))] → va_P (dC, dI) vwCl ((w_BT K q_t q_t_ends f_t_ends z_t_ends) ++ (w_WD K q_p0 q_p0_bits q_p0_closings f_p0_bits f_p0_closings z_p0_bits z_p0_closings z_p0_pairs) ++ (wArr K 20 q_p1 f_p1 y_p1)) H → va_D A ((w_BT K q_t q_t_ends f_t_ends z_t_ends) ++ (w_WD K q_p0 q_p0_bits q_p0_closings f_p0_bits f_p0_closings z_p0_bits z_p0_closings z_p0_pairs) ++ (wArr K 20 q_p1 f_p1 y_p1)) → va_S A s.heap H locs → W p l e (headSpec wc_BT_write rm_BT_write).room s m args below meth c H locs 0 0 Q (F0 m 5 ls [])) := by
    intro k
    induction k with
    | zero => exact fun l3 l4 y_p1 H locs ls hf _ _ _ _ => no_s (α := Nat) (r := r) hf
    | succ k IH => exact fun l3 l4 y_p1 H locs ls hf => hb_5 (fr_BT_write z_p0_bits z_p0_pairs z_p1 k) IH l3 l4 y_p1 H locs ls ((frs_BT_write_5 z_p0_bits z_p0_pairs z_p1 k l3 l4 y_p1).symm.trans hf)
  have IH := key 1000000
  have hf : e_BT_write (fr_BT_write z_p0_bits z_p0_pairs z_p1 1000000) z_p0_bits z_p0_pairs z_p1 = some r := hf
  unfold e_BT_write at hf
  generalize fr_BT_write z_p0_bits z_p0_pairs z_p1 1000000 = ih at hf IH
  refine lv_iconst (v := nI 0) hx hb dBT_write_0 (by decide +kernel) ?_
  refine lv_istore_n hx hb dBT_write_1 rfl hl (by decide) rfl (fun ls hl => ?_)
  refine lv_iconst (v := nI 0) hx hb dBT_write_2 (by decide +kernel) ?_
  refine lv_istore hx hb dBT_write_3 hl (by decide) rfl (fun ls hl => ?_)
  exact IH 0 0 z_p1 _ _ _ hf (lv_sub hl [3, 4, 1, 0] rfl) hP hD hS
noncomputable def j_BT_read_92 (ih : Nat → Nat → Nat → Nat → Option (Nat × Nat)) (z_t_ends : Nat) (z_p0 : Nat) (z_p1_closings : Nat) (z_p1_pairs : Nat) (l3 : Nat) (l4 : Nat) (l6 : Nat) (y_t_ends : Nat) (y_p1_closings : Nat) : Option (Nat × Nat) := (Option.bind (f_WD_closeAfter l6 y_p1_closings z_p1_pairs) (fun q8 => (fz (iA l4 1) (fun u9 => ih l3 u9 y_t_ends q8))))
noncomputable def j_BT_read_72 (ih : Nat → Nat → Nat → Nat → Option (Nat × Nat)) (z_t_ends : Nat) (z_p0 : Nat) (z_p1_closings : Nat) (z_p1_pairs : Nat) (l3 : Nat) (l4 : Nat) (l6 : Nat) (y_t_ends : Nat) (y_p1_closings : Nat) : Option (Nat × Nat) := (bif iLt (iA l4 1) l6 then (bif Nat.blt (iA l4 1) 9 then (fz (aw y_t_ends (iA l4 1) l6) (fun u7 => j_BT_read_92 ih z_t_ends z_p0 z_p1_closings z_p1_pairs l3 l4 l6 u7 y_p1_closings)) else none) else (j_BT_read_92 ih z_t_ends z_p0 z_p1_closings z_p1_pairs l3 l4 l6 y_t_ends y_p1_closings))
noncomputable def b_BT_read_16 (ih : Nat → Nat → Nat → Nat → Option (Nat × Nat)) (z_t_ends : Nat) (z_p0 : Nat) (z_p1_closings : Nat) (z_p1_pairs : Nat) (l3 : Nat) (l4 : Nat) (y_t_ends : Nat) (y_p1_closings : Nat) : Option (Nat × Nat) := (bif iLt l4 l3 then (rd z_p0 20 (iA (iM 2 l4) 1) (fun v3 => (rd y_t_ends 9 l4 (fun v4 => (bif iLt l4 v3 then (bif iLt v3 l3 then (rd y_t_ends 9 l4 (fun v5 => (bif Nat.blt v3 9 then (fz (aw y_t_ends v3 v5) (fun u6 => j_BT_read_72 ih z_t_ends z_p0 z_p1_closings z_p1_pairs l3 l4 v3 u6 y_p1_closings)) else none))) else (j_BT_read_72 ih z_t_ends z_p0 z_p1_closings z_p1_pairs l3 l4 v4 y_t_ends y_p1_closings)) else (j_BT_read_72 ih z_t_ends z_p0 z_p1_closings z_p1_pairs l3 l4 v4 y_t_ends y_p1_closings)))))) else some (y_t_ends, y_p1_closings))
noncomputable def fr_BT_read (z_t_ends : Nat) (z_p0 : Nat) (z_p1_closings : Nat) (z_p1_pairs : Nat) (k : Nat) : Nat → Nat → Nat → Nat → Option (Nat × Nat) := Nat.rec (motive := fun _ => Nat → Nat → Nat → Nat → Option (Nat × Nat)) (fun _ _ _ _ => none) (fun _ ih a0 a1 a2 a3 => b_BT_read_16 ih z_t_ends z_p0 z_p1_closings z_p1_pairs a0 a1 a2 a3) k
theorem frs_BT_read_16 (z_t_ends : Nat) (z_p0 : Nat) (z_p1_closings : Nat) (z_p1_pairs : Nat) (k : Nat) (l3 : Nat) (l4 : Nat) (y_t_ends : Nat) (y_p1_closings : Nat) : fr_BT_read z_t_ends z_p0 z_p1_closings z_p1_pairs (k + 1) l3 l4 y_t_ends y_p1_closings = b_BT_read_16 (fr_BT_read z_t_ends z_p0 z_p1_closings z_p1_pairs k) z_t_ends z_p0 z_p1_closings z_p1_pairs l3 l4 y_t_ends y_p1_closings := rfl
noncomputable def e_BT_read (ih : Nat → Nat → Nat → Nat → Option (Nat × Nat)) (z_t_ends : Nat) (z_p0 : Nat) (z_p1_closings : Nat) (z_p1_pairs : Nat) : Option (Nat × Nat) := (Option.bind (f_WD_pairs z_p1_pairs) (fun q1 => (Option.bind (f_AR_fill9 q1 z_t_ends) (fun q2 => (ih q1 0 q2 z_p1_closings)))))
noncomputable def f_BT_read (z_t_ends : Nat) (z_p0 : Nat) (z_p1_closings : Nat) (z_p1_pairs : Nat) : Option (Nat × Nat) := e_BT_read (fr_BT_read z_t_ends z_p0 z_p1_closings z_p1_pairs 1000000) z_t_ends z_p0 z_p1_closings z_p1_pairs
abbrev rm_BT_read : Room := { frames := 1, cells := 0, slots := 0, locals := 23 }
set_option maxHeartbeats 4000000 in
set_option maxRecDepth 100000 in
theorem ct_BT_read (l : Launch) (dC : Nat → ClassId) (dI : Nat → Nat → Nat) (K : Nat → ClassId) (q_t : Nat) (q_t_ends : Nat) (q_p0 : Nat) (q_p1 : Nat) (q_p1_bits : Nat) (q_p1_closings : Nat) (f_t_ends : Nat → Int32) (f_p0 : Nat → Int32) (f_p1_bits : Nat → Int32) (f_p1_closings : Nat → Int32) (z_t_ends : Nat) (z_p0 : Nat) (z_p1_bits : Nat) (z_p1_closings : Nat) (z_p1_pairs : Nat) (r : Nat × Nat) (hf : f_BT_read z_t_ends z_p0 z_p1_closings z_p1_pairs = some r) : Ct l (dC, dI) vwCl yBT_read wc_BT_read rm_BT_read (tyK K) [.ref q_t, .ref q_p0, .ref q_p1] ((w_BT K q_t q_t_ends f_t_ends z_t_ends) ++ (wArr K 20 q_p0 f_p0 z_p0) ++ (w_WD K q_p1 q_p1_bits q_p1_closings f_p1_bits f_p1_closings z_p1_bits z_p1_closings z_p1_pairs)) ((w_BT K q_t q_t_ends f_t_ends r.1) ++ (wArr K 20 q_p0 f_p0 z_p0) ++ (w_WD K q_p1 q_p1_bits q_p1_closings f_p1_bits f_p1_closings z_p1_bits r.2 z_p1_pairs)) none := by
  intro sz
  refine Met.ofW (cc := cBT_read) (maxL := 7) (ret := none) (by decide) rfl ?_
  intro p e s m args below meth c s₁ B hml hv
  obtain ⟨rfl, hsz, hP, hK, hD0⟩ := hv
  have hx := B.exec
  have hb := B.bytes
  have hr := B.returns
  have hts := atoms_spec (ws := wc_BT_read) B.pre
  have hws : ∀ w ∈ WS, w.before _ s = true := fun w h => hts w (List.mem_cons_of_mem _ h)
  have hown : s.vm.findClass RBT = some m.cls := findClass_of_methodNamed B.named
  have hlocks := B.notSynchronized
  subst hsz
  have hD := hD0.self (sz := s.heap.size)
  generalize hAe : va_A ((w_BT K q_t q_t_ends f_t_ends z_t_ends) ++ (wArr K 20 q_p0 f_p0 z_p0) ++ (w_WD K q_p1 q_p1_bits q_p1_closings f_p1_bits f_p1_closings z_p1_bits z_p1_closings z_p1_pairs)) s.heap.size = A at hD ⊢
  have hA : ∀ q : Nat, s.heap.size ≤ q → A q := fun q h => by rw [← hAe]; exact Or.inr h
  have hS : va_S A s.heap s.heap [] := va_S.rf
  have hl := lv_entry ([.ref q_t, .ref q_p0, .ref q_p1]) (n := 7) (Nat.le_of_ble_eq_true rfl)
  rw [lg_entry_eq]
  generalize (lg_sl ([.ref q_t, .ref q_p0, .ref q_p1]) ++ List.replicate (7 - (lg_sl ([.ref q_t, .ref q_p0, .ref q_p1])).length) Slot.unset).toArray = ls at hl ⊢
  have hl : lv_has ls 7 [(0, .ref q_t), (1, .ref q_p0), (2, .ref q_p1)] := hl
  generalize ([.ref q_t, .ref q_p0, .ref q_p1] : List Value).toArray = args at hts hws ⊢
  generalize hQ : MQ below _ _ _ _ _ _ = Q
  have hj_92 : ∀ (ih : Nat → Nat → Nat → Nat → Option (Nat × Nat)) (IH : (∀ (l3 l4 y_t_ends y_p1_closings : Nat) (H : Heap) (locs : List Loc) (ls : Array Slot), ih l3 l4 y_t_ends y_p1_closings = some r → lv_has ls 7 [(0, .ref q_t), (1, .ref q_p0), (2, .ref q_p1), (3, .int (nI l3)), (4, .int (nI l4))] → va_P (dC, dI) vwCl ((w_BT K q_t q_t_ends f_t_ends y_t_ends) ++ (wArr K 20 q_p0 f_p0 z_p0) ++ (w_WD K q_p1 q_p1_bits q_p1_closings f_p1_bits f_p1_closings z_p1_bits y_p1_closings z_p1_pairs)) H → va_D A ((w_BT K q_t q_t_ends f_t_ends y_t_ends) ++ (wArr K 20 q_p0 f_p0 z_p0) ++ (w_WD K q_p1 q_p1_bits q_p1_closings f_p1_bits f_p1_closings z_p1_bits y_p1_closings z_p1_pairs)) → va_S A s.heap H locs → W p l e (headSpec wc_BT_read rm_BT_read).room s m args below meth c H locs 0 0 Q (F0 m 16 ls []))), ∀ (l3 l4 l6 y_t_ends y_p1_closings : Nat) (H : Heap) (locs : List Loc) (ls : Array Slot), j_BT_read_92 ih z_t_ends z_p0 z_p1_closings z_p1_pairs l3 l4 l6 y_t_ends y_p1_closings = some r → lv_has ls 7 [(0, .ref q_t), (1, .ref q_p0), (2, .ref q_p1), (3, .int (nI l3)), (4, .int (nI l4)), (6, .int (nI l6))] → va_P (dC, dI) vwCl ((w_BT K q_t q_t_ends f_t_ends y_t_ends) ++ (wArr K 20 q_p0 f_p0 z_p0) ++ (w_WD K q_p1 q_p1_bits q_p1_closings f_p1_bits f_p1_closings z_p1_bits y_p1_closings z_p1_pairs)) H → va_D A ((w_BT K q_t q_t_ends f_t_ends y_t_ends) ++ (wArr K 20 q_p0 f_p0 z_p0) ++ (w_WD K q_p1 q_p1_bits q_p1_closings f_p1_bits f_p1_closings z_p1_bits y_p1_closings z_p1_pairs)) → va_S A s.heap H locs → W p l e (headSpec wc_BT_read rm_BT_read).room s m args below meth c H locs 0 0 Q (F0 m 92 ls []) := by
    intro ih IH l3 l4 l6 y_t_ends y_p1_closings H locs ls hf hl hP hD hS
    unfold j_BT_read_92 at hf
    refine lv_aload_n hx hb dBT_read_92 rfl (lv_at hl 2 rfl) ?_
    refine lv_iload hx hb dBT_read_93 (lv_at hl 5 rfl) ?_
    obtain ⟨q8, hq, hf⟩ := bd_s hf
    refine ct_callv (ws' := (w_BT K q_t q_t_ends f_t_ends y_t_ends) ++ (wArr K 20 q_p0 f_p0 z_p0) ++ (w_WD K q_p1 q_p1_bits q_p1_closings f_p1_bits f_p1_closings z_p1_bits q8 z_p1_pairs)) (va_runV (As := [.int (nI l6)]) (rest := []) ⟨hx, hb, hml, hown, hws⟩ (ct_WD_closeAfter l dC dI K q_p1 q_p1_bits q_p1_closings f_p1_bits f_p1_closings l6 z_p1_bits y_p1_closings z_p1_pairs q8 hq _) ⟨cb_WD_closeAfter hws rm_WD_closeAfter (hws _ km_BT_45) ⟨Nat.le_of_ble_eq_true rfl, Nat.le_of_ble_eq_true rfl⟩, hws _ ki_WD_closeAfter, hws _ ke_WD_WD_closeAfter_WD_closeAfter⟩ ⟨ct_blind _ _ _, va_recv (ci := 8) (q0 := 3) (q := (RWD, TWD, 3)) hK hP rfl rfl, ct_pre (cs := (w_WD K q_p1 q_p1_bits q_p1_closings f_p1_bits f_p1_closings z_p1_bits y_p1_closings z_p1_pairs)) hP hD hK [3, 4, 5] (by decide) rfl _⟩ rfl rfl hl.1 rfl (lv_room (Nat.le_of_ble_eq_true rfl)) dBT_read_95 ⟨Nat.le_of_ble_eq_true rfl, Nat.le_of_ble_eq_true rfl⟩) hP hD hS hA [3, 4, 5] rfl rfl rfl rfl (fun H locs hP hD hS => ?_)
    have hP : va_P (dC, dI) vwCl ((w_BT K q_t q_t_ends f_t_ends y_t_ends) ++ (wArr K 20 q_p0 f_p0 z_p0) ++ (w_WD K q_p1 q_p1_bits q_p1_closings f_p1_bits f_p1_closings z_p1_bits q8 z_p1_pairs)) H := hP
    have hD : va_D A ((w_BT K q_t q_t_ends f_t_ends y_t_ends) ++ (wArr K 20 q_p0 f_p0 z_p0) ++ (w_WD K q_p1 q_p1_bits q_p1_closings f_p1_bits f_p1_closings z_p1_bits q8 z_p1_pairs)) := hD
    refine lx_iinc (k := 4) (d := 1) hx hb dBT_read_98 hl rfl (by decide +kernel) (by decide) rfl (fun ls hl => ?_)
    refine lv_goto (tgt := 16) hx hb dBT_read_101 (by decide) ?_
    have hf := fz_s hf
    exact IH l3 (iA l4 1) y_t_ends q8 _ _ _ hf (lv_sub hl [1, 2, 3, 4, 0] rfl) hP hD hS
  have hj_72 : ∀ (ih : Nat → Nat → Nat → Nat → Option (Nat × Nat)) (IH : (∀ (l3 l4 y_t_ends y_p1_closings : Nat) (H : Heap) (locs : List Loc) (ls : Array Slot), ih l3 l4 y_t_ends y_p1_closings = some r → lv_has ls 7 [(0, .ref q_t), (1, .ref q_p0), (2, .ref q_p1), (3, .int (nI l3)), (4, .int (nI l4))] → va_P (dC, dI) vwCl ((w_BT K q_t q_t_ends f_t_ends y_t_ends) ++ (wArr K 20 q_p0 f_p0 z_p0) ++ (w_WD K q_p1 q_p1_bits q_p1_closings f_p1_bits f_p1_closings z_p1_bits y_p1_closings z_p1_pairs)) H → va_D A ((w_BT K q_t q_t_ends f_t_ends y_t_ends) ++ (wArr K 20 q_p0 f_p0 z_p0) ++ (w_WD K q_p1 q_p1_bits q_p1_closings f_p1_bits f_p1_closings z_p1_bits y_p1_closings z_p1_pairs)) → va_S A s.heap H locs → W p l e (headSpec wc_BT_read rm_BT_read).room s m args below meth c H locs 0 0 Q (F0 m 16 ls []))), ∀ (l3 l4 l6 y_t_ends y_p1_closings : Nat) (H : Heap) (locs : List Loc) (ls : Array Slot), j_BT_read_72 ih z_t_ends z_p0 z_p1_closings z_p1_pairs l3 l4 l6 y_t_ends y_p1_closings = some r → lv_has ls 7 [(0, .ref q_t), (1, .ref q_p0), (2, .ref q_p1), (3, .int (nI l3)), (4, .int (nI l4)), (6, .int (nI l6))] → va_P (dC, dI) vwCl ((w_BT K q_t q_t_ends f_t_ends y_t_ends) ++ (wArr K 20 q_p0 f_p0 z_p0) ++ (w_WD K q_p1 q_p1_bits q_p1_closings f_p1_bits f_p1_closings z_p1_bits y_p1_closings z_p1_pairs)) H → va_D A ((w_BT K q_t q_t_ends f_t_ends y_t_ends) ++ (wArr K 20 q_p0 f_p0 z_p0) ++ (w_WD K q_p1 q_p1_bits q_p1_closings f_p1_bits f_p1_closings z_p1_bits y_p1_closings z_p1_pairs)) → va_S A s.heap H locs → W p l e (headSpec wc_BT_read rm_BT_read).room s m args below meth c H locs 0 0 Q (F0 m 72 ls []) := by
    intro ih IH l3 l4 l6 y_t_ends y_p1_closings H locs ls hf hl hP hD hS
    unfold j_BT_read_72 at hf
    refine lv_iload hx hb dBT_read_72 (lv_at hl 4 rfl) ?_
    refine lv_iconst (v := nI 1) hx hb dBT_read_74 (by decide +kernel) ?_
    refine lx_iadd hx hb dBT_read_75 ?_
    refine lv_iload hx hb dBT_read_76 (lv_at hl 5 rfl) ?_
    refine lx_icmp_ge (tgt := 92) hx hb dBT_read_78 (by decide) hf (fun hf => ?_) (fun hf => ?_)
    · exact hj_92 _ IH l3 l4 l6 y_t_ends y_p1_closings _ _ _ hf (lv_sub hl [0, 1, 2, 3, 4, 5] rfl) hP hD hS
    · refine lv_aload_n hx hb dBT_read_81 rfl (lv_at hl 0 rfl) ?_
      refine va_get (D := (dC, dI)) (ci := 0) (v := .ref q_t_ends) (C := RBT) (T := TBT) (N := 1) hx hb hws uwBT hown hK hP 0 rfl rfl 0 (by decide) (hws _ kf_BT_9) (fun _ h9 => h9) rfl dBT_read_82 ?_
      refine lv_iload hx hb dBT_read_85 (lv_at hl 4 rfl) ?_
      refine lv_iconst (v := nI 1) hx hb dBT_read_87 (by decide +kernel) ?_
      refine lx_iadd hx hb dBT_read_88 ?_
      refine lv_iload hx hb dBT_read_89 (lv_at hl 5 rfl) ?_
      refine lx_iast hx hb hK hP hD hS 1 0 rfl rfl (by decide) dBT_read_91 hf (fun hf H locs hP hD hS => ?_)
      have hP : va_P (dC, dI) vwCl ((w_BT K q_t q_t_ends f_t_ends (aw y_t_ends (iA l4 1) l6)) ++ (wArr K 20 q_p0 f_p0 z_p0) ++ (w_WD K q_p1 q_p1_bits q_p1_closings f_p1_bits f_p1_closings z_p1_bits y_p1_closings z_p1_pairs)) H := hP
      have hD : va_D A ((w_BT K q_t q_t_ends f_t_ends (aw y_t_ends (iA l4 1) l6)) ++ (wArr K 20 q_p0 f_p0 z_p0) ++ (w_WD K q_p1 q_p1_bits q_p1_closings f_p1_bits f_p1_closings z_p1_bits y_p1_closings z_p1_pairs)) := hD
      have hf := fz_s hf
      exact hj_92 _ IH l3 l4 l6 (aw y_t_ends (iA l4 1) l6) y_p1_closings _ _ _ hf (lv_sub hl [0, 1, 2, 3, 4, 5] rfl) hP hD hS
  have hb_16 : ∀ (ih : Nat → Nat → Nat → Nat → Option (Nat × Nat)) (IH : (∀ (l3 l4 y_t_ends y_p1_closings : Nat) (H : Heap) (locs : List Loc) (ls : Array Slot), ih l3 l4 y_t_ends y_p1_closings = some r → lv_has ls 7 [(0, .ref q_t), (1, .ref q_p0), (2, .ref q_p1), (3, .int (nI l3)), (4, .int (nI l4))] → va_P (dC, dI) vwCl ((w_BT K q_t q_t_ends f_t_ends y_t_ends) ++ (wArr K 20 q_p0 f_p0 z_p0) ++ (w_WD K q_p1 q_p1_bits q_p1_closings f_p1_bits f_p1_closings z_p1_bits y_p1_closings z_p1_pairs)) H → va_D A ((w_BT K q_t q_t_ends f_t_ends y_t_ends) ++ (wArr K 20 q_p0 f_p0 z_p0) ++ (w_WD K q_p1 q_p1_bits q_p1_closings f_p1_bits f_p1_closings z_p1_bits y_p1_closings z_p1_pairs)) → va_S A s.heap H locs → W p l e (headSpec wc_BT_read rm_BT_read).room s m args below meth c H locs 0 0 Q (F0 m 16 ls []))), ∀ (l3 l4 y_t_ends y_p1_closings : Nat) (H : Heap) (locs : List Loc) (ls : Array Slot), b_BT_read_16 ih z_t_ends z_p0 z_p1_closings z_p1_pairs l3 l4 y_t_ends y_p1_closings = some r → lv_has ls 7 [(0, .ref q_t), (1, .ref q_p0), (2, .ref q_p1), (3, .int (nI l3)), (4, .int (nI l4))] → va_P (dC, dI) vwCl ((w_BT K q_t q_t_ends f_t_ends y_t_ends) ++ (wArr K 20 q_p0 f_p0 z_p0) ++ (w_WD K q_p1 q_p1_bits q_p1_closings f_p1_bits f_p1_closings z_p1_bits y_p1_closings z_p1_pairs)) H → va_D A ((w_BT K q_t q_t_ends f_t_ends y_t_ends) ++ (wArr K 20 q_p0 f_p0 z_p0) ++ (w_WD K q_p1 q_p1_bits q_p1_closings f_p1_bits f_p1_closings z_p1_bits y_p1_closings z_p1_pairs)) → va_S A s.heap H locs → W p l e (headSpec wc_BT_read rm_BT_read).room s m args below meth c H locs 0 0 Q (F0 m 16 ls []) := by
    intro ih IH l3 l4 y_t_ends y_p1_closings H locs ls hf hl hP hD hS
    unfold b_BT_read_16 at hf
    refine lv_iload hx hb dBT_read_16 (lv_at hl 4 rfl) ?_
    refine lv_iload_n hx hb dBT_read_18 rfl (lv_at hl 3 rfl) ?_
    refine lx_icmp_ge (tgt := 104) hx hb dBT_read_19 (by decide) hf (fun hf => ?_) (fun hf => ?_)
    · obtain rfl := Option.some.inj hf
      rw [← hQ]
      exact W.vret hx hb hr (fun t ht hW => ⟨⟨rfl, by rw [ht]; exact hP⟩, hS.F ht⟩) hS.2.2 dBT_read_104
    · refine lv_aload_n hx hb dBT_read_22 rfl (lv_at hl 1 rfl) ?_
      refine lv_iconst (v := nI 2) hx hb dBT_read_23 (by decide +kernel) ?_
      refine lv_iload hx hb dBT_read_24 (lv_at hl 4 rfl) ?_
      refine lx_imul hx hb dBT_read_26 ?_
      refine lv_iconst (v := nI 1) hx hb dBT_read_27 (by decide +kernel) ?_
      refine lx_iadd hx hb dBT_read_28 ?_
      refine lx_iald hx hb hK hP 2 0 rfl rfl (by decide) dBT_read_29 hf (fun v3 _ hf => ?_)
      refine lv_istore hx hb dBT_read_30 hl (by decide) rfl (fun ls hl => ?_)
      refine lv_aload_n hx hb dBT_read_32 rfl (lv_at hl 1 rfl) ?_
      refine va_get (D := (dC, dI)) (ci := 0) (v := .ref q_t_ends) (C := RBT) (T := TBT) (N := 1) hx hb hws uwBT hown hK hP 0 rfl rfl 0 (by decide) (hws _ kf_BT_9) (fun _ h9 => h9) rfl dBT_read_33 ?_
      refine lv_iload hx hb dBT_read_36 (lv_at hl 5 rfl) ?_
      refine lx_iald hx hb hK hP 1 0 rfl rfl (by decide) dBT_read_38 hf (fun v4 _ hf => ?_)
      refine lv_istore hx hb dBT_read_39 hl (by decide) rfl (fun ls hl => ?_)
      refine lv_iload hx hb dBT_read_41 (lv_at hl 1 rfl) ?_
      refine lv_iload hx hb dBT_read_43 (lv_at hl 6 rfl) ?_
      refine lx_icmp_le (tgt := 72) hx hb dBT_read_45 (by decide) hf (fun hf => ?_) (fun hf => ?_)
      · exact hj_72 _ IH l3 l4 v4 y_t_ends y_p1_closings _ _ _ hf (lv_sub hl [2, 3, 4, 5, 6, 0] rfl) hP hD hS
      · refine lv_iload hx hb dBT_read_48 (lv_at hl 1 rfl) ?_
        refine lv_iload_n hx hb dBT_read_50 rfl (lv_at hl 5 rfl) ?_
        refine lx_icmp_ge (tgt := 72) hx hb dBT_read_51 (by decide) hf (fun hf => ?_) (fun hf => ?_)
        · exact hj_72 _ IH l3 l4 v4 y_t_ends y_p1_closings _ _ _ hf (lv_sub hl [2, 3, 4, 5, 6, 0] rfl) hP hD hS
        · refine lv_aload_n hx hb dBT_read_54 rfl (lv_at hl 2 rfl) ?_
          refine va_get (D := (dC, dI)) (ci := 0) (v := .ref q_t_ends) (C := RBT) (T := TBT) (N := 1) hx hb hws uwBT hown hK hP 0 rfl rfl 0 (by decide) (hws _ kf_BT_9) (fun _ h9 => h9) rfl dBT_read_55 ?_
          refine lv_iload hx hb dBT_read_58 (lv_at hl 1 rfl) ?_
          refine lv_aload_n hx hb dBT_read_60 rfl (lv_at hl 2 rfl) ?_
          refine va_get (D := (dC, dI)) (ci := 0) (v := .ref q_t_ends) (C := RBT) (T := TBT) (N := 1) hx hb hws uwBT hown hK hP 0 rfl rfl 0 (by decide) (hws _ kf_BT_9) (fun _ h9 => h9) rfl dBT_read_61 ?_
          refine lv_iload hx hb dBT_read_64 (lv_at hl 6 rfl) ?_
          refine lx_iald hx hb hK hP 1 0 rfl rfl (by decide) dBT_read_66 hf (fun v5 _ hf => ?_)
          refine lx_iast hx hb hK hP hD hS 1 0 rfl rfl (by decide) dBT_read_67 hf (fun hf H locs hP hD hS => ?_)
          have hP : va_P (dC, dI) vwCl ((w_BT K q_t q_t_ends f_t_ends (aw y_t_ends v3 v5)) ++ (wArr K 20 q_p0 f_p0 z_p0) ++ (w_WD K q_p1 q_p1_bits q_p1_closings f_p1_bits f_p1_closings z_p1_bits y_p1_closings z_p1_pairs)) H := hP
          have hD : va_D A ((w_BT K q_t q_t_ends f_t_ends (aw y_t_ends v3 v5)) ++ (wArr K 20 q_p0 f_p0 z_p0) ++ (w_WD K q_p1 q_p1_bits q_p1_closings f_p1_bits f_p1_closings z_p1_bits y_p1_closings z_p1_pairs)) := hD
          refine lv_iload hx hb dBT_read_68 (lv_at hl 1 rfl) ?_
          refine lv_istore hx hb dBT_read_70 hl (by decide) rfl (fun ls hl => ?_)
          have hf := fz_s hf
          exact hj_72 _ IH l3 l4 v3 (aw y_t_ends v3 v5) y_p1_closings _ _ _ hf (lv_sub hl [2, 3, 4, 5, 6, 0] rfl) hP hD hS
  have key : ∀ k : Nat, (∀ (l3 l4 y_t_ends y_p1_closings : Nat) (H : Heap) (locs : List Loc) (ls : Array Slot), fr_BT_read z_t_ends z_p0 z_p1_closings z_p1_pairs k l3 l4 y_t_ends y_p1_closings = some r → lv_has ls 7 [(0, .ref q_t), (1, .ref q_p0), (2, .ref q_p1), (3, .int (nI l3)), (4, .int (nI l4))] → va_P (dC, dI) vwCl ((w_BT K q_t q_t_ends f_t_ends y_t_ends) ++ (wArr K 20 q_p0 f_p0 z_p0) ++ (w_WD K q_p1 q_p1_bits q_p1_closings f_p1_bits f_p1_closings z_p1_bits y_p1_closings z_p1_pairs)) H → va_D A ((w_BT K q_t q_t_ends f_t_ends y_t_ends) ++ (wArr K 20 q_p0 f_p0 z_p0) ++ (w_WD K q_p1 q_p1_bits q_p1_closings f_p1_bits f_p1_closings z_p1_bits y_p1_closings z_p1_pairs)) → va_S A s.heap H locs → W p l e (headSpec wc_BT_read rm_BT_read).room s m args below meth c H locs 0 0 Q (F0 m 16 ls [])) := by
    intro k
    induction k with
    | zero => exact fun l3 l4 y_t_ends y_p1_closings H locs ls hf _ _ _ _ => no_s (α := Nat × Nat) (r := r) hf
    | succ k IH => exact fun l3 l4 y_t_ends y_p1_closings H locs ls hf => hb_16 (fr_BT_read z_t_ends z_p0 z_p1_closings z_p1_pairs k) IH l3 l4 y_t_ends y_p1_closings H locs ls ((frs_BT_read_16 z_t_ends z_p0 z_p1_closings z_p1_pairs k l3 l4 y_t_ends y_p1_closings).symm.trans hf)
  have IH := key 1000000
  have hf : e_BT_read (fr_BT_read z_t_ends z_p0 z_p1_closings z_p1_pairs 1000000) z_t_ends z_p0 z_p1_closings z_p1_pairs = some r := hf
  unfold e_BT_read at hf
  generalize fr_BT_read z_t_ends z_p0 z_p1_closings z_p1_pairs 1000000 = ih at hf IH
  refine lv_aload_n hx hb dBT_read_0 rfl (lv_at hl 2 rfl) ?_
  obtain ⟨q1, hq, hf⟩ := bd_s hf
  refine ct_callr (ws' := (w_BT K q_t q_t_ends f_t_ends z_t_ends) ++ (wArr K 20 q_p0 f_p0 z_p0) ++ (w_WD K q_p1 q_p1_bits q_p1_closings f_p1_bits f_p1_closings z_p1_bits z_p1_closings z_p1_pairs)) (va_runV (As := []) (rest := []) ⟨hx, hb, hml, hown, hws⟩ (ct_WD_pairs l dC dI K q_p1 q_p1_bits q_p1_closings f_p1_bits f_p1_closings z_p1_bits z_p1_closings z_p1_pairs q1 hq _) ⟨cb_WD_pairs hws rm_WD_pairs (hws _ km_BT_36) ⟨Nat.le_of_ble_eq_true rfl, Nat.le_of_ble_eq_true rfl⟩, hws _ ki_WD_pairs, hws _ ke_WD_WD_pairs_WD_pairs⟩ ⟨ct_blind _ _ _, va_recv (ci := 8) (q0 := 3) (q := (RWD, TWD, 3)) hK hP rfl rfl, ct_pre (cs := (w_WD K q_p1 q_p1_bits q_p1_closings f_p1_bits f_p1_closings z_p1_bits z_p1_closings z_p1_pairs)) hP hD hK [3, 4, 5] (by decide) rfl _⟩ rfl rfl hl.1 rfl (lv_room (Nat.le_of_ble_eq_true rfl)) dBT_read_1 ⟨Nat.le_of_ble_eq_true rfl, Nat.le_of_ble_eq_true rfl⟩) hP hD hS hA [3, 4, 5] rfl rfl rfl rfl (fun H locs hP hD hS => ?_)
  refine lv_istore_n hx hb dBT_read_4 rfl hl (by decide) rfl (fun ls hl => ?_)
  refine lv_aload_n hx hb dBT_read_5 rfl (lv_at hl 1 rfl) ?_
  refine va_get (D := (dC, dI)) (ci := 0) (v := .ref q_t_ends) (C := RBT) (T := TBT) (N := 1) hx hb hws uwBT hown hK hP 0 rfl rfl 0 (by decide) (hws _ kf_BT_9) (fun _ h9 => h9) rfl dBT_read_6 ?_
  refine lv_iload_n hx hb dBT_read_9 rfl (lv_at hl 0 rfl) ?_
  obtain ⟨q2, hq, hf⟩ := bd_s hf
  refine ct_callv (ws' := (w_BT K q_t q_t_ends f_t_ends q2) ++ (wArr K 20 q_p0 f_p0 z_p0) ++ (w_WD K q_p1 q_p1_bits q_p1_closings f_p1_bits f_p1_closings z_p1_bits z_p1_closings z_p1_pairs)) (va_runS (As := [.ref q_t_ends, .int (nI q1)]) (rest := []) ⟨hx, hb, hml, hown, hws⟩ (ct_AR_fill9 l dC dI K q_t_ends f_t_ends q1 z_t_ends q2 hq _) ⟨cb_AR_fill hws rm_AR_fill9 (hws _ km_BT_39) ⟨Nat.le_of_ble_eq_true rfl, Nat.le_of_ble_eq_true rfl⟩, hws _ ks_AR_fill⟩ ⟨ct_blind _ _ _, ct_pre (cs := (wArr K 9 q_t_ends f_t_ends z_t_ends)) hP hD hK [1] (by decide) rfl _⟩ rfl rfl hl.1 rfl (lv_room (Nat.le_of_ble_eq_true rfl)) dBT_read_10 ⟨Nat.le_of_ble_eq_true rfl, Nat.le_of_ble_eq_true rfl⟩) hP hD hS hA [1] rfl rfl rfl rfl (fun H locs hP hD hS => ?_)
  have hP : va_P (dC, dI) vwCl ((w_BT K q_t q_t_ends f_t_ends q2) ++ (wArr K 20 q_p0 f_p0 z_p0) ++ (w_WD K q_p1 q_p1_bits q_p1_closings f_p1_bits f_p1_closings z_p1_bits z_p1_closings z_p1_pairs)) H := hP
  have hD : va_D A ((w_BT K q_t q_t_ends f_t_ends q2) ++ (wArr K 20 q_p0 f_p0 z_p0) ++ (w_WD K q_p1 q_p1_bits q_p1_closings f_p1_bits f_p1_closings z_p1_bits z_p1_closings z_p1_pairs)) := hD
  refine lv_iconst (v := nI 0) hx hb dBT_read_13 (by decide +kernel) ?_
  refine lv_istore hx hb dBT_read_14 hl (by decide) rfl (fun ls hl => ?_)
  exact IH q1 0 q2 z_p1_closings _ _ _ hf (lv_sub hl [2, 3, 4, 1, 0] rfl) hP hD hS
noncomputable def j_PT_write_48 (ih : Nat → Nat → Nat → Nat → Option (Nat)) (z_p0_bits : Nat) (z_p0_pairs : Nat) (z_p1 : Nat) (l3 : Nat) (l4 : Nat) (l5 : Nat) (y_p1 : Nat) : Option (Nat) := (fz (iA l5 1) (fun u8 => ih l3 l4 u8 y_p1))
noncomputable def b_PT_write_12 (ih : Nat → Nat → Nat → Nat → Option (Nat)) (z_p0_bits : Nat) (z_p0_pairs : Nat) (z_p1 : Nat) (l3 : Nat) (l4 : Nat) (l5 : Nat) (y_p1 : Nat) : Option (Nat) := (Option.bind (f_WD_length z_p0_pairs) (fun q2 => (bif iLt l5 q2 then (Option.bind (f_WD_isOne l5 z_p0_bits z_p0_pairs) (fun q3 => (bif iEq q3 0 then (rd y_p1 20 l3 (fun v4 => (j_PT_write_48 ih z_p0_bits z_p0_pairs z_p1 v4 l4 l5 y_p1))) else (bif Nat.blt (iA l4 1) 20 then (fz (iA l4 1) (fun u5 => fz (iA l4 1) (fun u6 => fz (aw y_p1 (iA l4 1) l3) (fun u7 => j_PT_write_48 ih z_p0_bits z_p0_pairs z_p1 u5 u6 l5 u7)))) else none)))) else some y_p1)))
noncomputable def fr_PT_write (z_p0_bits : Nat) (z_p0_pairs : Nat) (z_p1 : Nat) (k : Nat) : Nat → Nat → Nat → Nat → Option (Nat) := Nat.rec (motive := fun _ => Nat → Nat → Nat → Nat → Option (Nat)) (fun _ _ _ _ => none) (fun _ ih a0 a1 a2 a3 => b_PT_write_12 ih z_p0_bits z_p0_pairs z_p1 a0 a1 a2 a3) k
theorem frs_PT_write_12 (z_p0_bits : Nat) (z_p0_pairs : Nat) (z_p1 : Nat) (k : Nat) (l3 : Nat) (l4 : Nat) (l5 : Nat) (y_p1 : Nat) : fr_PT_write z_p0_bits z_p0_pairs z_p1 (k + 1) l3 l4 l5 y_p1 = b_PT_write_12 (fr_PT_write z_p0_bits z_p0_pairs z_p1 k) z_p0_bits z_p0_pairs z_p1 l3 l4 l5 y_p1 := rfl
noncomputable def e_PT_write (ih : Nat → Nat → Nat → Nat → Option (Nat)) (z_p0_bits : Nat) (z_p0_pairs : Nat) (z_p1 : Nat) : Option (Nat) := (bif Nat.blt 0 20 then (fz (aw z_p1 0 4294967295) (fun u1 => ih 0 0 0 u1)) else none)
noncomputable def f_PT_write (z_p0_bits : Nat) (z_p0_pairs : Nat) (z_p1 : Nat) : Option (Nat) := e_PT_write (fr_PT_write z_p0_bits z_p0_pairs z_p1 1000000) z_p0_bits z_p0_pairs z_p1
abbrev rm_PT_write : Room := { frames := 2, cells := 0, slots := 0, locals := 41 }
set_option maxHeartbeats 4000000 in
set_option maxRecDepth 100000 in
theorem ct_PT_write (l : Launch) (dC : Nat → ClassId) (dI : Nat → Nat → Nat) (K : Nat → ClassId) (q_t : Nat) (q_t_lasts : Nat) (q_p0 : Nat) (q_p0_bits : Nat) (q_p0_closings : Nat) (q_p1 : Nat) (f_t_lasts : Nat → Int32) (f_p0_bits : Nat → Int32) (f_p0_closings : Nat → Int32) (f_p1 : Nat → Int32) (z_t_lasts : Nat) (z_p0_bits : Nat) (z_p0_closings : Nat) (z_p0_pairs : Nat) (z_p1 : Nat) (r : Nat) (hf : f_PT_write z_p0_bits z_p0_pairs z_p1 = some r) : Ct l (dC, dI) vwCl yPT_write wc_PT_write rm_PT_write (tyK K) [.ref q_t, .ref q_p0, .ref q_p1] ((w_PT K q_t q_t_lasts f_t_lasts z_t_lasts) ++ (w_WD K q_p0 q_p0_bits q_p0_closings f_p0_bits f_p0_closings z_p0_bits z_p0_closings z_p0_pairs) ++ (wArr K 20 q_p1 f_p1 z_p1)) ((w_PT K q_t q_t_lasts f_t_lasts z_t_lasts) ++ (w_WD K q_p0 q_p0_bits q_p0_closings f_p0_bits f_p0_closings z_p0_bits z_p0_closings z_p0_pairs) ++ (wArr K 20 q_p1 f_p1 r)) none := by
  intro sz
  refine Met.ofW (cc := cPT_write) (maxL := 6) (ret := none) (by decide) rfl ?_
  intro p e s m args below meth c s₁ B hml hv
  obtain ⟨rfl, hsz, hP, hK, hD0⟩ := hv
  have hx := B.exec
  have hb := B.bytes
  have hr := B.returns
  have hts := atoms_spec (ws := wc_PT_write) B.pre
  have hws : ∀ w ∈ WS, w.before _ s = true := fun w h => hts w (List.mem_cons_of_mem _ h)
  have hown : s.vm.findClass RPT = some m.cls := findClass_of_methodNamed B.named
  have hlocks := B.notSynchronized
  subst hsz
  have hD := hD0.self (sz := s.heap.size)
  generalize hAe : va_A ((w_PT K q_t q_t_lasts f_t_lasts z_t_lasts) ++ (w_WD K q_p0 q_p0_bits q_p0_closings f_p0_bits f_p0_closings z_p0_bits z_p0_closings z_p0_pairs) ++ (wArr K 20 q_p1 f_p1 z_p1)) s.heap.size = A at hD ⊢
  have hA : ∀ q : Nat, s.heap.size ≤ q → A q := fun q h => by rw [← hAe]; exact Or.inr h
  have hS : va_S A s.heap s.heap [] := va_S.rf
  have hl := lv_entry ([.ref q_t, .ref q_p0, .ref q_p1]) (n := 6) (Nat.le_of_ble_eq_true rfl)
  rw [lg_entry_eq]
  generalize (lg_sl ([.ref q_t, .ref q_p0, .ref q_p1]) ++ List.replicate (6 - (lg_sl ([.ref q_t, .ref q_p0, .ref q_p1])).length) Slot.unset).toArray = ls at hl ⊢
  have hl : lv_has ls 6 [(0, .ref q_t), (1, .ref q_p0), (2, .ref q_p1)] := hl
  generalize ([.ref q_t, .ref q_p0, .ref q_p1] : List Value).toArray = args at hts hws ⊢
  generalize hQ : MQ below _ _ _ _ _ _ = Q
  have hj_48 : ∀ (ih : Nat → Nat → Nat → Nat → Option (Nat)) (IH : (∀ (l3 l4 l5 y_p1 : Nat) (H : Heap) (locs : List Loc) (ls : Array Slot), ih l3 l4 l5 y_p1 = some r → lv_has ls 6 [(1, .ref q_p0), (2, .ref q_p1), (3, .int (nI l3)), (4, .int (nI l4)), (5, .int (nI l5))] → va_P (dC, dI) vwCl ((w_PT K q_t q_t_lasts f_t_lasts z_t_lasts) ++ (w_WD K q_p0 q_p0_bits q_p0_closings f_p0_bits f_p0_closings z_p0_bits z_p0_closings z_p0_pairs) ++ (wArr K 20 q_p1 f_p1 y_p1)) H → va_D A ((w_PT K q_t q_t_lasts f_t_lasts z_t_lasts) ++ (w_WD K q_p0 q_p0_bits q_p0_closings f_p0_bits f_p0_closings z_p0_bits z_p0_closings z_p0_pairs) ++ (wArr K 20 q_p1 f_p1 y_p1)) → va_S A s.heap H locs → W p l e (headSpec wc_PT_write rm_PT_write).room s m args below meth c H locs 0 0 Q (F0 m 12 ls []))), ∀ (l3 l4 l5 y_p1 : Nat) (H : Heap) (locs : List Loc) (ls : Array Slot), j_PT_write_48 ih z_p0_bits z_p0_pairs z_p1 l3 l4 l5 y_p1 = some r → lv_has ls 6 [(1, .ref q_p0), (2, .ref q_p1), (3, .int (nI l3)), (4, .int (nI l4)), (5, .int (nI l5))] → va_P (dC, dI) vwCl ((w_PT K q_t q_t_lasts f_t_lasts z_t_lasts) ++ (w_WD K q_p0 q_p0_bits q_p0_closings f_p0_bits f_p0_closings z_p0_bits z_p0_closings z_p0_pairs) ++ (wArr K 20 q_p1 f_p1 y_p1)) H → va_D A ((w_PT K q_t q_t_lasts f_t_lasts z_t_lasts) ++ (w_WD K q_p0 q_p0_bits q_p0_closings f_p0_bits f_p0_closings z_p0_bits z_p0_closings z_p0_pairs) ++ (wArr K 20 q_p1 f_p1 y_p1)) → va_S A s.heap H locs → W p l e (headSpec wc_PT_write rm_PT_write).room s m args below meth c H locs 0 0 Q (F0 m 48 ls []) := by
    intro ih IH l3 l4 l5 y_p1 H locs ls hf hl hP hD hS
    unfold j_PT_write_48 at hf
    refine lx_iinc (k := 4) (d := 1) hx hb dPT_write_48 hl rfl (by decide +kernel) (by decide) rfl (fun ls hl => ?_)
    refine lv_goto (tgt := 12) hx hb dPT_write_51 (by decide) ?_
    have hf := fz_s hf
    exact IH l3 l4 (iA l5 1) y_p1 _ _ _ hf (lv_sub hl [1, 2, 3, 4, 0] rfl) hP hD hS
  have hb_12 : ∀ (ih : Nat → Nat → Nat → Nat → Option (Nat)) (IH : (∀ (l3 l4 l5 y_p1 : Nat) (H : Heap) (locs : List Loc) (ls : Array Slot), ih l3 l4 l5 y_p1 = some r → lv_has ls 6 [(1, .ref q_p0), (2, .ref q_p1), (3, .int (nI l3)), (4, .int (nI l4)), (5, .int (nI l5))] → va_P (dC, dI) vwCl ((w_PT K q_t q_t_lasts f_t_lasts z_t_lasts) ++ (w_WD K q_p0 q_p0_bits q_p0_closings f_p0_bits f_p0_closings z_p0_bits z_p0_closings z_p0_pairs) ++ (wArr K 20 q_p1 f_p1 y_p1)) H → va_D A ((w_PT K q_t q_t_lasts f_t_lasts z_t_lasts) ++ (w_WD K q_p0 q_p0_bits q_p0_closings f_p0_bits f_p0_closings z_p0_bits z_p0_closings z_p0_pairs) ++ (wArr K 20 q_p1 f_p1 y_p1)) → va_S A s.heap H locs → W p l e (headSpec wc_PT_write rm_PT_write).room s m args below meth c H locs 0 0 Q (F0 m 12 ls []))), ∀ (l3 l4 l5 y_p1 : Nat) (H : Heap) (locs : List Loc) (ls : Array Slot), b_PT_write_12 ih z_p0_bits z_p0_pairs z_p1 l3 l4 l5 y_p1 = some r → lv_has ls 6 [(1, .ref q_p0), (2, .ref q_p1), (3, .int (nI l3)), (4, .int (nI l4)), (5, .int (nI l5))] → va_P (dC, dI) vwCl ((w_PT K q_t q_t_lasts f_t_lasts z_t_lasts) ++ (w_WD K q_p0 q_p0_bits q_p0_closings f_p0_bits f_p0_closings z_p0_bits z_p0_closings z_p0_pairs) ++ (wArr K 20 q_p1 f_p1 y_p1)) H → va_D A ((w_PT K q_t q_t_lasts f_t_lasts z_t_lasts) ++ (w_WD K q_p0 q_p0_bits q_p0_closings f_p0_bits f_p0_closings z_p0_bits z_p0_closings z_p0_pairs) ++ (wArr K 20 q_p1 f_p1 y_p1)) → va_S A s.heap H locs → W p l e (headSpec wc_PT_write rm_PT_write).room s m args below meth c H locs 0 0 Q (F0 m 12 ls []) := by
    intro ih IH l3 l4 l5 y_p1 H locs ls hf hl hP hD hS
    unfold b_PT_write_12 at hf
    refine lv_iload hx hb dPT_write_12 (lv_at hl 4 rfl) ?_
    refine lv_aload_n hx hb dPT_write_14 rfl (lv_at hl 0 rfl) ?_
    obtain ⟨q2, hq, hf⟩ := bd_s hf
    refine ct_callr (ws' := (w_PT K q_t q_t_lasts f_t_lasts z_t_lasts) ++ (w_WD K q_p0 q_p0_bits q_p0_closings f_p0_bits f_p0_closings z_p0_bits z_p0_closings z_p0_pairs) ++ (wArr K 20 q_p1 f_p1 y_p1)) (va_runV (As := []) (rest := [.int (nI l5)]) ⟨hx, hb, hml, hown, hws⟩ (ct_WD_length l dC dI K q_p0 q_p0_bits q_p0_closings f_p0_bits f_p0_closings z_p0_bits z_p0_closings z_p0_pairs q2 hq _) ⟨cb_WD_length hws rm_WD_length (hws _ km_PT_15) ⟨Nat.le_of_ble_eq_true rfl, Nat.le_of_ble_eq_true rfl⟩, hws _ ki_WD_length, hws _ ke_WD_WD_length_WD_length⟩ ⟨ct_blind _ _ _, va_recv (ci := 8) (q0 := 2) (q := (RWD, TWD, 3)) hK hP rfl rfl, ct_pre (cs := (w_WD K q_p0 q_p0_bits q_p0_closings f_p0_bits f_p0_closings z_p0_bits z_p0_closings z_p0_pairs)) hP hD hK [2, 3, 4] (by decide) rfl _⟩ rfl rfl hl.1 rfl (lv_room (Nat.le_of_ble_eq_true rfl)) dPT_write_15 ⟨Nat.le_of_ble_eq_true rfl, Nat.le_of_ble_eq_true rfl⟩) hP hD hS hA [2, 3, 4] rfl rfl rfl rfl (fun H locs hP hD hS => ?_)
    refine lx_icmp_ge (tgt := 54) hx hb dPT_write_18 (by decide) hf (fun hf => ?_) (fun hf => ?_)
    · obtain rfl := Option.some.inj hf
      rw [← hQ]
      exact W.vret hx hb hr (fun t ht hW => ⟨⟨rfl, by rw [ht]; exact hP⟩, hS.F ht⟩) hS.2.2 dPT_write_54
    · refine lv_aload_n hx hb dPT_write_21 rfl (lv_at hl 0 rfl) ?_
      refine lv_iload hx hb dPT_write_22 (lv_at hl 4 rfl) ?_
      obtain ⟨q3, hq, hf⟩ := bd_s hf
      refine ct_callr (ws' := (w_PT K q_t q_t_lasts f_t_lasts z_t_lasts) ++ (w_WD K q_p0 q_p0_bits q_p0_closings f_p0_bits f_p0_closings z_p0_bits z_p0_closings z_p0_pairs) ++ (wArr K 20 q_p1 f_p1 y_p1)) (va_runV (As := [.int (nI l5)]) (rest := []) ⟨hx, hb, hml, hown, hws⟩ (ct_WD_isOne l dC dI K q_p0 q_p0_bits q_p0_closings f_p0_bits f_p0_closings l5 z_p0_bits z_p0_closings z_p0_pairs q3 hq _) ⟨cb_WD_isOne hws rm_WD_isOne (hws _ km_PT_21) ⟨Nat.le_of_ble_eq_true rfl, Nat.le_of_ble_eq_true rfl⟩, hws _ ki_WD_isOne, hws _ ke_WD_WD_isOne_WD_isOne⟩ ⟨ct_blind _ _ _, va_recv (ci := 8) (q0 := 2) (q := (RWD, TWD, 3)) hK hP rfl rfl, ct_pre (cs := (w_WD K q_p0 q_p0_bits q_p0_closings f_p0_bits f_p0_closings z_p0_bits z_p0_closings z_p0_pairs)) hP hD hK [2, 3, 4] (by decide) rfl _⟩ rfl rfl hl.1 rfl (lv_room (Nat.le_of_ble_eq_true rfl)) dPT_write_24 ⟨Nat.le_of_ble_eq_true rfl, Nat.le_of_ble_eq_true rfl⟩) hP hD hS hA [2, 3, 4] rfl rfl rfl rfl (fun H locs hP hD hS => ?_)
      refine lx_if_eq (tgt := 44) hx hb dPT_write_27 (by decide) hf (fun hf => ?_) (fun hf => ?_)
      · refine lv_aload_n hx hb dPT_write_44 rfl (lv_at hl 1 rfl) ?_
        refine lv_iload_n hx hb dPT_write_45 rfl (lv_at hl 2 rfl) ?_
        refine lx_iald hx hb hK hP 5 0 rfl rfl (by decide) dPT_write_46 hf (fun v4 _ hf => ?_)
        refine lv_istore_n hx hb dPT_write_47 rfl hl (by decide) rfl (fun ls hl => ?_)
        exact hj_48 _ IH v4 l4 l5 y_p1 _ _ _ hf (lv_sub hl [1, 2, 0, 3, 4] rfl) hP hD hS
      · refine lx_iinc (k := 3) (d := 1) hx hb dPT_write_30 hl rfl (by decide +kernel) (by decide) rfl (fun ls hl => ?_)
        refine lv_aload_n hx hb dPT_write_33 rfl (lv_at hl 2 rfl) ?_
        refine lv_iload hx hb dPT_write_34 (lv_at hl 0 rfl) ?_
        refine lv_iload_n hx hb dPT_write_36 rfl (lv_at hl 3 rfl) ?_
        refine lx_iast hx hb hK hP hD hS 5 0 rfl rfl (by decide) dPT_write_37 hf (fun hf H locs hP hD hS => ?_)
        have hP : va_P (dC, dI) vwCl ((w_PT K q_t q_t_lasts f_t_lasts z_t_lasts) ++ (w_WD K q_p0 q_p0_bits q_p0_closings f_p0_bits f_p0_closings z_p0_bits z_p0_closings z_p0_pairs) ++ (wArr K 20 q_p1 f_p1 (aw y_p1 (iA l4 1) l3))) H := hP
        have hD : va_D A ((w_PT K q_t q_t_lasts f_t_lasts z_t_lasts) ++ (w_WD K q_p0 q_p0_bits q_p0_closings f_p0_bits f_p0_closings z_p0_bits z_p0_closings z_p0_pairs) ++ (wArr K 20 q_p1 f_p1 (aw y_p1 (iA l4 1) l3))) := hD
        refine lv_iload hx hb dPT_write_38 (lv_at hl 0 rfl) ?_
        refine lv_istore_n hx hb dPT_write_40 rfl hl (by decide) rfl (fun ls hl => ?_)
        refine lv_goto (tgt := 48) hx hb dPT_write_41 (by decide) ?_
        have hf := fz_s hf
        have hf := fz_s hf
        have hf := fz_s hf
        exact hj_48 _ IH (iA l4 1) (iA l4 1) l5 (aw y_p1 (iA l4 1) l3) _ _ _ hf (lv_sub hl [2, 3, 0, 1, 4] rfl) hP hD hS
  have key : ∀ k : Nat, (∀ (l3 l4 l5 y_p1 : Nat) (H : Heap) (locs : List Loc) (ls : Array Slot), fr_PT_write z_p0_bits z_p0_pairs z_p1 k l3 l4 l5 y_p1 = some r → lv_has ls 6 [(1, .ref q_p0), (2, .ref q_p1), (3, .int (nI l3)), (4, .int (nI l4)), (5, .int (nI l5))] → va_P (dC, dI) vwCl ((w_PT K q_t q_t_lasts f_t_lasts z_t_lasts) ++ (w_WD K q_p0 q_p0_bits q_p0_closings f_p0_bits f_p0_closings z_p0_bits z_p0_closings z_p0_pairs) ++ (wArr K 20 q_p1 f_p1 y_p1)) H → va_D A ((w_PT K q_t q_t_lasts f_t_lasts z_t_lasts) ++ (w_WD K q_p0 q_p0_bits q_p0_closings f_p0_bits f_p0_closings z_p0_bits z_p0_closings z_p0_pairs) ++ (wArr K 20 q_p1 f_p1 y_p1)) → va_S A s.heap H locs → W p l e (headSpec wc_PT_write rm_PT_write).room s m args below meth c H locs 0 0 Q (F0 m 12 ls [])) := by
    intro k
    induction k with
    | zero => exact fun l3 l4 l5 y_p1 H locs ls hf _ _ _ _ => no_s (α := Nat) (r := r) hf
    | succ k IH => exact fun l3 l4 l5 y_p1 H locs ls hf => hb_12 (fr_PT_write z_p0_bits z_p0_pairs z_p1 k) IH l3 l4 l5 y_p1 H locs ls ((frs_PT_write_12 z_p0_bits z_p0_pairs z_p1 k l3 l4 l5 y_p1).symm.trans hf)
  have IH := key 1000000
  have hf : e_PT_write (fr_PT_write z_p0_bits z_p0_pairs z_p1 1000000) z_p0_bits z_p0_pairs z_p1 = some r := hf
  unfold e_PT_write at hf
  generalize fr_PT_write z_p0_bits z_p0_pairs z_p1 1000000 = ih at hf IH
  refine lv_iconst (v := nI 0) hx hb dPT_write_0 (by decide +kernel) ?_
  refine lv_istore_n hx hb dPT_write_1 rfl hl (by decide) rfl (fun ls hl => ?_)
  refine lv_iconst (v := nI 0) hx hb dPT_write_2 (by decide +kernel) ?_
  refine lv_istore hx hb dPT_write_3 hl (by decide) rfl (fun ls hl => ?_)
  refine lv_aload_n hx hb dPT_write_5 rfl (lv_at hl 4 rfl) ?_
  refine lv_iconst (v := nI 0) hx hb dPT_write_6 (by decide +kernel) ?_
  refine lv_iconst (v := nI 4294967295) hx hb dPT_write_7 (by decide +kernel) ?_
  refine lx_iast hx hb hK hP hD hS 5 0 rfl rfl (by decide) dPT_write_8 hf (fun hf H locs hP hD hS => ?_)
  have hP : va_P (dC, dI) vwCl ((w_PT K q_t q_t_lasts f_t_lasts z_t_lasts) ++ (w_WD K q_p0 q_p0_bits q_p0_closings f_p0_bits f_p0_closings z_p0_bits z_p0_closings z_p0_pairs) ++ (wArr K 20 q_p1 f_p1 (aw z_p1 0 4294967295))) H := hP
  have hD : va_D A ((w_PT K q_t q_t_lasts f_t_lasts z_t_lasts) ++ (w_WD K q_p0 q_p0_bits q_p0_closings f_p0_bits f_p0_closings z_p0_bits z_p0_closings z_p0_pairs) ++ (wArr K 20 q_p1 f_p1 (aw z_p1 0 4294967295))) := hD
  refine lv_iconst (v := nI 0) hx hb dPT_write_9 (by decide +kernel) ?_
  refine lv_istore hx hb dPT_write_10 hl (by decide) rfl (fun ls hl => ?_)
  have hf := fz_s hf
  exact IH 0 0 0 (aw z_p1 0 4294967295) _ _ _ hf (lv_sub hl [4, 5, 2, 1, 0] rfl) hP hD hS
noncomputable def j_PT_read_80 (ih : Nat → Nat → Nat → Nat → Nat → Option (Nat × Nat)) (z_t_lasts : Nat) (z_p0 : Nat) (z_p1_closings : Nat) (z_p1_pairs : Nat) (l4 : Nat) (y_t_lasts : Nat) (y_p1_closings : Nat) : Option (Nat × Nat) := (rd y_t_lasts 10 l4 (fun v8 => (Option.bind (f_WD_closeAfter v8 y_p1_closings z_p1_pairs) (fun q9 => (fz (iA l4 4294967295) (fun u10 => ih 1 u10 y_t_lasts q9 0))))))
noncomputable def b_PT_read_8 (ih : Nat → Nat → Nat → Nat → Nat → Option (Nat × Nat)) (z_t_lasts : Nat) (z_p0 : Nat) (z_p1_closings : Nat) (z_p1_pairs : Nat) (l3 : Nat) (l4 : Nat) (y_t_lasts : Nat) (y_p1_closings : Nat) : Option (Nat × Nat) := (bif iLt l3 l4 then (ih 1 l3 y_t_lasts y_p1_closings 0) else (bif Nat.blt l4 10 then (fz (iA l4 1) (fun u2 => fz (aw y_t_lasts l4 l4) (fun u3 => ih 0 l3 u2 u3 y_p1_closings))) else none))
noncomputable def b_PT_read_32 (ih : Nat → Nat → Nat → Nat → Nat → Option (Nat × Nat)) (z_t_lasts : Nat) (z_p0 : Nat) (z_p1_closings : Nat) (z_p1_pairs : Nat) (l4 : Nat) (y_t_lasts : Nat) (y_p1_closings : Nat) : Option (Nat × Nat) := (bif iLt l4 1 then some (y_t_lasts, y_p1_closings) else (rd z_p0 20 l4 (fun v4 => (bif iLt v4 0 then (j_PT_read_80 ih z_t_lasts z_p0 z_p1_closings z_p1_pairs l4 y_t_lasts y_p1_closings) else (bif iLt v4 l4 then (rd y_t_lasts 10 v4 (fun v5 => (rd y_t_lasts 10 l4 (fun v6 => (bif Nat.blt v4 10 then (fz (aw y_t_lasts v4 (iMx v5 v6)) (fun u7 => j_PT_read_80 ih z_t_lasts z_p0 z_p1_closings z_p1_pairs l4 u7 y_p1_closings)) else none))))) else (j_PT_read_80 ih z_t_lasts z_p0 z_p1_closings z_p1_pairs l4 y_t_lasts y_p1_closings))))))
noncomputable def fr_PT_read (z_t_lasts : Nat) (z_p0 : Nat) (z_p1_closings : Nat) (z_p1_pairs : Nat) (k : Nat) : Nat → Nat → Nat → Nat → Nat → Option (Nat × Nat) := Nat.rec (motive := fun _ => Nat → Nat → Nat → Nat → Nat → Option (Nat × Nat)) (fun _ _ _ _ _ => none) (fun _ ih hh a0 a1 a2 a3 => (Nat.rec (motive := fun _ => Option (Nat × Nat)) (b_PT_read_8 ih z_t_lasts z_p0 z_p1_closings z_p1_pairs a0 a1 a2 a3) (fun h0 _ => (Nat.rec (motive := fun _ => Option (Nat × Nat)) (b_PT_read_32 ih z_t_lasts z_p0 z_p1_closings z_p1_pairs a0 a1 a2) (fun h1 _ => none) h0)) hh)) k
theorem frs_PT_read_8 (z_t_lasts : Nat) (z_p0 : Nat) (z_p1_closings : Nat) (z_p1_pairs : Nat) (k : Nat) (l3 : Nat) (l4 : Nat) (y_t_lasts : Nat) (y_p1_closings : Nat) : fr_PT_read z_t_lasts z_p0 z_p1_closings z_p1_pairs (k + 1) 0 l3 l4 y_t_lasts y_p1_closings = b_PT_read_8 (fr_PT_read z_t_lasts z_p0 z_p1_closings z_p1_pairs k) z_t_lasts z_p0 z_p1_closings z_p1_pairs l3 l4 y_t_lasts y_p1_closings := rfl
theorem frs_PT_read_32 (z_t_lasts : Nat) (z_p0 : Nat) (z_p1_closings : Nat) (z_p1_pairs : Nat) (k : Nat) (l4 : Nat) (y_t_lasts : Nat) (y_p1_closings : Nat) : fr_PT_read z_t_lasts z_p0 z_p1_closings z_p1_pairs (k + 1) 1 l4 y_t_lasts y_p1_closings 0 = b_PT_read_32 (fr_PT_read z_t_lasts z_p0 z_p1_closings z_p1_pairs k) z_t_lasts z_p0 z_p1_closings z_p1_pairs l4 y_t_lasts y_p1_closings := rfl
noncomputable def e_PT_read (ih : Nat → Nat → Nat → Nat → Nat → Option (Nat × Nat)) (z_t_lasts : Nat) (z_p0 : Nat) (z_p1_closings : Nat) (z_p1_pairs : Nat) : Option (Nat × Nat) := (Option.bind (f_WD_pairs z_p1_pairs) (fun q1 => (ih 0 q1 0 z_t_lasts z_p1_closings)))
noncomputable def f_PT_read (z_t_lasts : Nat) (z_p0 : Nat) (z_p1_closings : Nat) (z_p1_pairs : Nat) : Option (Nat × Nat) := e_PT_read (fr_PT_read z_t_lasts z_p0 z_p1_closings z_p1_pairs 1000000) z_t_lasts z_p0 z_p1_closings z_p1_pairs
abbrev rm_PT_read : Room := { frames := 1, cells := 0, slots := 0, locals := 21 }
set_option maxHeartbeats 4000000 in
set_option maxRecDepth 100000 in
theorem ct_PT_read (l : Launch) (dC : Nat → ClassId) (dI : Nat → Nat → Nat) (K : Nat → ClassId) (q_t : Nat) (q_t_lasts : Nat) (q_p0 : Nat) (q_p1 : Nat) (q_p1_bits : Nat) (q_p1_closings : Nat) (f_t_lasts : Nat → Int32) (f_p0 : Nat → Int32) (f_p1_bits : Nat → Int32) (f_p1_closings : Nat → Int32) (z_t_lasts : Nat) (z_p0 : Nat) (z_p1_bits : Nat) (z_p1_closings : Nat) (z_p1_pairs : Nat) (r : Nat × Nat) (hf : f_PT_read z_t_lasts z_p0 z_p1_closings z_p1_pairs = some r) : Ct l (dC, dI) vwCl yPT_read wc_PT_read rm_PT_read (tyK K) [.ref q_t, .ref q_p0, .ref q_p1] ((w_PT K q_t q_t_lasts f_t_lasts z_t_lasts) ++ (wArr K 20 q_p0 f_p0 z_p0) ++ (w_WD K q_p1 q_p1_bits q_p1_closings f_p1_bits f_p1_closings z_p1_bits z_p1_closings z_p1_pairs)) ((w_PT K q_t q_t_lasts f_t_lasts r.1) ++ (wArr K 20 q_p0 f_p0 z_p0) ++ (w_WD K q_p1 q_p1_bits q_p1_closings f_p1_bits f_p1_closings z_p1_bits r.2 z_p1_pairs)) none := by
  intro sz
  refine Met.ofW (cc := cPT_read) (maxL := 6) (ret := none) (by decide) rfl ?_
  intro p e s m args below meth c s₁ B hml hv
  obtain ⟨rfl, hsz, hP, hK, hD0⟩ := hv
  have hx := B.exec
  have hb := B.bytes
  have hr := B.returns
  have hts := atoms_spec (ws := wc_PT_read) B.pre
  have hws : ∀ w ∈ WS, w.before _ s = true := fun w h => hts w (List.mem_cons_of_mem _ h)
  have hown : s.vm.findClass RPT = some m.cls := findClass_of_methodNamed B.named
  have hlocks := B.notSynchronized
  subst hsz
  have hD := hD0.self (sz := s.heap.size)
  generalize hAe : va_A ((w_PT K q_t q_t_lasts f_t_lasts z_t_lasts) ++ (wArr K 20 q_p0 f_p0 z_p0) ++ (w_WD K q_p1 q_p1_bits q_p1_closings f_p1_bits f_p1_closings z_p1_bits z_p1_closings z_p1_pairs)) s.heap.size = A at hD ⊢
  have hA : ∀ q : Nat, s.heap.size ≤ q → A q := fun q h => by rw [← hAe]; exact Or.inr h
  have hS : va_S A s.heap s.heap [] := va_S.rf
  have hl := lv_entry ([.ref q_t, .ref q_p0, .ref q_p1]) (n := 6) (Nat.le_of_ble_eq_true rfl)
  rw [lg_entry_eq]
  generalize (lg_sl ([.ref q_t, .ref q_p0, .ref q_p1]) ++ List.replicate (6 - (lg_sl ([.ref q_t, .ref q_p0, .ref q_p1])).length) Slot.unset).toArray = ls at hl ⊢
  have hl : lv_has ls 6 [(0, .ref q_t), (1, .ref q_p0), (2, .ref q_p1)] := hl
  generalize ([.ref q_t, .ref q_p0, .ref q_p1] : List Value).toArray = args at hts hws ⊢
  generalize hQ : MQ below _ _ _ _ _ _ = Q
  have hj_80 : ∀ (ih : Nat → Nat → Nat → Nat → Nat → Option (Nat × Nat)) (IH : (∀ (l3 l4 y_t_lasts y_p1_closings : Nat) (H : Heap) (locs : List Loc) (ls : Array Slot), ih 0 l3 l4 y_t_lasts y_p1_closings = some r → lv_has ls 6 [(0, .ref q_t), (1, .ref q_p0), (2, .ref q_p1), (3, .int (nI l3)), (4, .int (nI l4))] → va_P (dC, dI) vwCl ((w_PT K q_t q_t_lasts f_t_lasts y_t_lasts) ++ (wArr K 20 q_p0 f_p0 z_p0) ++ (w_WD K q_p1 q_p1_bits q_p1_closings f_p1_bits f_p1_closings z_p1_bits y_p1_closings z_p1_pairs)) H → va_D A ((w_PT K q_t q_t_lasts f_t_lasts y_t_lasts) ++ (wArr K 20 q_p0 f_p0 z_p0) ++ (w_WD K q_p1 q_p1_bits q_p1_closings f_p1_bits f_p1_closings z_p1_bits y_p1_closings z_p1_pairs)) → va_S A s.heap H locs → W p l e (headSpec wc_PT_read rm_PT_read).room s m args below meth c H locs 0 0 Q (F0 m 8 ls [])) ∧ (∀ (l4 y_t_lasts y_p1_closings : Nat) (H : Heap) (locs : List Loc) (ls : Array Slot), ih 1 l4 y_t_lasts y_p1_closings 0 = some r → lv_has ls 6 [(0, .ref q_t), (1, .ref q_p0), (2, .ref q_p1), (4, .int (nI l4))] → va_P (dC, dI) vwCl ((w_PT K q_t q_t_lasts f_t_lasts y_t_lasts) ++ (wArr K 20 q_p0 f_p0 z_p0) ++ (w_WD K q_p1 q_p1_bits q_p1_closings f_p1_bits f_p1_closings z_p1_bits y_p1_closings z_p1_pairs)) H → va_D A ((w_PT K q_t q_t_lasts f_t_lasts y_t_lasts) ++ (wArr K 20 q_p0 f_p0 z_p0) ++ (w_WD K q_p1 q_p1_bits q_p1_closings f_p1_bits f_p1_closings z_p1_bits y_p1_closings z_p1_pairs)) → va_S A s.heap H locs → W p l e (headSpec wc_PT_read rm_PT_read).room s m args below meth c H locs 0 0 Q (F0 m 32 ls []))), ∀ (l4 y_t_lasts y_p1_closings : Nat) (H : Heap) (locs : List Loc) (ls : Array Slot), j_PT_read_80 ih z_t_lasts z_p0 z_p1_closings z_p1_pairs l4 y_t_lasts y_p1_closings = some r → lv_has ls 6 [(0, .ref q_t), (1, .ref q_p0), (2, .ref q_p1), (4, .int (nI l4))] → va_P (dC, dI) vwCl ((w_PT K q_t q_t_lasts f_t_lasts y_t_lasts) ++ (wArr K 20 q_p0 f_p0 z_p0) ++ (w_WD K q_p1 q_p1_bits q_p1_closings f_p1_bits f_p1_closings z_p1_bits y_p1_closings z_p1_pairs)) H → va_D A ((w_PT K q_t q_t_lasts f_t_lasts y_t_lasts) ++ (wArr K 20 q_p0 f_p0 z_p0) ++ (w_WD K q_p1 q_p1_bits q_p1_closings f_p1_bits f_p1_closings z_p1_bits y_p1_closings z_p1_pairs)) → va_S A s.heap H locs → W p l e (headSpec wc_PT_read rm_PT_read).room s m args below meth c H locs 0 0 Q (F0 m 80 ls []) := by
    intro ih IH l4 y_t_lasts y_p1_closings H locs ls hf hl hP hD hS
    unfold j_PT_read_80 at hf
    refine lv_aload_n hx hb dPT_read_80 rfl (lv_at hl 2 rfl) ?_
    refine lv_aload_n hx hb dPT_read_81 rfl (lv_at hl 0 rfl) ?_
    refine va_get (D := (dC, dI)) (ci := 2) (v := .ref q_t_lasts) (C := RPT) (T := TPT) (N := 1) hx hb hws uwPT hown hK hP 0 rfl rfl 0 (by decide) (hws _ kf_PT_9) (fun _ h9 => h9) rfl dPT_read_82 ?_
    refine lv_iload hx hb dPT_read_85 (lv_at hl 3 rfl) ?_
    refine lx_iald hx hb hK hP 1 0 rfl rfl (by decide) dPT_read_87 hf (fun v8 _ hf => ?_)
    obtain ⟨q9, hq, hf⟩ := bd_s hf
    refine ct_callv (ws' := (w_PT K q_t q_t_lasts f_t_lasts y_t_lasts) ++ (wArr K 20 q_p0 f_p0 z_p0) ++ (w_WD K q_p1 q_p1_bits q_p1_closings f_p1_bits f_p1_closings z_p1_bits q9 z_p1_pairs)) (va_runV (As := [.int (nI v8)]) (rest := []) ⟨hx, hb, hml, hown, hws⟩ (ct_WD_closeAfter l dC dI K q_p1 q_p1_bits q_p1_closings f_p1_bits f_p1_closings v8 z_p1_bits y_p1_closings z_p1_pairs q9 hq _) ⟨cb_WD_closeAfter hws rm_WD_closeAfter (hws _ km_PT_34) ⟨Nat.le_of_ble_eq_true rfl, Nat.le_of_ble_eq_true rfl⟩, hws _ ki_WD_closeAfter, hws _ ke_WD_WD_closeAfter_WD_closeAfter⟩ ⟨ct_blind _ _ _, va_recv (ci := 8) (q0 := 3) (q := (RWD, TWD, 3)) hK hP rfl rfl, ct_pre (cs := (w_WD K q_p1 q_p1_bits q_p1_closings f_p1_bits f_p1_closings z_p1_bits y_p1_closings z_p1_pairs)) hP hD hK [3, 4, 5] (by decide) rfl _⟩ rfl rfl hl.1 rfl (lv_room (Nat.le_of_ble_eq_true rfl)) dPT_read_88 ⟨Nat.le_of_ble_eq_true rfl, Nat.le_of_ble_eq_true rfl⟩) hP hD hS hA [3, 4, 5] rfl rfl rfl rfl (fun H locs hP hD hS => ?_)
    have hP : va_P (dC, dI) vwCl ((w_PT K q_t q_t_lasts f_t_lasts y_t_lasts) ++ (wArr K 20 q_p0 f_p0 z_p0) ++ (w_WD K q_p1 q_p1_bits q_p1_closings f_p1_bits f_p1_closings z_p1_bits q9 z_p1_pairs)) H := hP
    have hD : va_D A ((w_PT K q_t q_t_lasts f_t_lasts y_t_lasts) ++ (wArr K 20 q_p0 f_p0 z_p0) ++ (w_WD K q_p1 q_p1_bits q_p1_closings f_p1_bits f_p1_closings z_p1_bits q9 z_p1_pairs)) := hD
    refine lx_iinc (k := 3) (d := 4294967295) hx hb dPT_read_91 hl rfl (by decide +kernel) (by decide) rfl (fun ls hl => ?_)
    refine lv_goto (tgt := 32) hx hb dPT_read_94 (by decide) ?_
    have hf := fz_s hf
    exact IH.2 (iA l4 4294967295) y_t_lasts q9 _ _ _ hf (lv_sub hl [1, 2, 3, 0] rfl) hP hD hS
  have hb_8 : ∀ (ih : Nat → Nat → Nat → Nat → Nat → Option (Nat × Nat)) (IH : (∀ (l3 l4 y_t_lasts y_p1_closings : Nat) (H : Heap) (locs : List Loc) (ls : Array Slot), ih 0 l3 l4 y_t_lasts y_p1_closings = some r → lv_has ls 6 [(0, .ref q_t), (1, .ref q_p0), (2, .ref q_p1), (3, .int (nI l3)), (4, .int (nI l4))] → va_P (dC, dI) vwCl ((w_PT K q_t q_t_lasts f_t_lasts y_t_lasts) ++ (wArr K 20 q_p0 f_p0 z_p0) ++ (w_WD K q_p1 q_p1_bits q_p1_closings f_p1_bits f_p1_closings z_p1_bits y_p1_closings z_p1_pairs)) H → va_D A ((w_PT K q_t q_t_lasts f_t_lasts y_t_lasts) ++ (wArr K 20 q_p0 f_p0 z_p0) ++ (w_WD K q_p1 q_p1_bits q_p1_closings f_p1_bits f_p1_closings z_p1_bits y_p1_closings z_p1_pairs)) → va_S A s.heap H locs → W p l e (headSpec wc_PT_read rm_PT_read).room s m args below meth c H locs 0 0 Q (F0 m 8 ls [])) ∧ (∀ (l4 y_t_lasts y_p1_closings : Nat) (H : Heap) (locs : List Loc) (ls : Array Slot), ih 1 l4 y_t_lasts y_p1_closings 0 = some r → lv_has ls 6 [(0, .ref q_t), (1, .ref q_p0), (2, .ref q_p1), (4, .int (nI l4))] → va_P (dC, dI) vwCl ((w_PT K q_t q_t_lasts f_t_lasts y_t_lasts) ++ (wArr K 20 q_p0 f_p0 z_p0) ++ (w_WD K q_p1 q_p1_bits q_p1_closings f_p1_bits f_p1_closings z_p1_bits y_p1_closings z_p1_pairs)) H → va_D A ((w_PT K q_t q_t_lasts f_t_lasts y_t_lasts) ++ (wArr K 20 q_p0 f_p0 z_p0) ++ (w_WD K q_p1 q_p1_bits q_p1_closings f_p1_bits f_p1_closings z_p1_bits y_p1_closings z_p1_pairs)) → va_S A s.heap H locs → W p l e (headSpec wc_PT_read rm_PT_read).room s m args below meth c H locs 0 0 Q (F0 m 32 ls []))), ∀ (l3 l4 y_t_lasts y_p1_closings : Nat) (H : Heap) (locs : List Loc) (ls : Array Slot), b_PT_read_8 ih z_t_lasts z_p0 z_p1_closings z_p1_pairs l3 l4 y_t_lasts y_p1_closings = some r → lv_has ls 6 [(0, .ref q_t), (1, .ref q_p0), (2, .ref q_p1), (3, .int (nI l3)), (4, .int (nI l4))] → va_P (dC, dI) vwCl ((w_PT K q_t q_t_lasts f_t_lasts y_t_lasts) ++ (wArr K 20 q_p0 f_p0 z_p0) ++ (w_WD K q_p1 q_p1_bits q_p1_closings f_p1_bits f_p1_closings z_p1_bits y_p1_closings z_p1_pairs)) H → va_D A ((w_PT K q_t q_t_lasts f_t_lasts y_t_lasts) ++ (wArr K 20 q_p0 f_p0 z_p0) ++ (w_WD K q_p1 q_p1_bits q_p1_closings f_p1_bits f_p1_closings z_p1_bits y_p1_closings z_p1_pairs)) → va_S A s.heap H locs → W p l e (headSpec wc_PT_read rm_PT_read).room s m args below meth c H locs 0 0 Q (F0 m 8 ls []) := by
    intro ih IH l3 l4 y_t_lasts y_p1_closings H locs ls hf hl hP hD hS
    unfold b_PT_read_8 at hf
    refine lv_iload hx hb dPT_read_8 (lv_at hl 4 rfl) ?_
    refine lv_iload_n hx hb dPT_read_10 rfl (lv_at hl 3 rfl) ?_
    refine lx_icmp_gt (tgt := 29) hx hb dPT_read_11 (by decide) hf (fun hf => ?_) (fun hf => ?_)
    · refine lv_iload_n hx hb dPT_read_29 rfl (lv_at hl 3 rfl) ?_
      refine lv_istore hx hb dPT_read_30 hl (by decide) rfl (fun ls hl => ?_)
      exact IH.2 l3 y_t_lasts y_p1_closings _ _ _ hf (lv_sub hl [1, 2, 3, 0] rfl) hP hD hS
    · refine lv_aload_n hx hb dPT_read_14 rfl (lv_at hl 0 rfl) ?_
      refine va_get (D := (dC, dI)) (ci := 2) (v := .ref q_t_lasts) (C := RPT) (T := TPT) (N := 1) hx hb hws uwPT hown hK hP 0 rfl rfl 0 (by decide) (hws _ kf_PT_9) (fun _ h9 => h9) rfl dPT_read_15 ?_
      refine lv_iload hx hb dPT_read_18 (lv_at hl 4 rfl) ?_
      refine lv_iload hx hb dPT_read_20 (lv_at hl 4 rfl) ?_
      refine lx_iast hx hb hK hP hD hS 1 0 rfl rfl (by decide) dPT_read_22 hf (fun hf H locs hP hD hS => ?_)
      have hP : va_P (dC, dI) vwCl ((w_PT K q_t q_t_lasts f_t_lasts (aw y_t_lasts l4 l4)) ++ (wArr K 20 q_p0 f_p0 z_p0) ++ (w_WD K q_p1 q_p1_bits q_p1_closings f_p1_bits f_p1_closings z_p1_bits y_p1_closings z_p1_pairs)) H := hP
      have hD : va_D A ((w_PT K q_t q_t_lasts f_t_lasts (aw y_t_lasts l4 l4)) ++ (wArr K 20 q_p0 f_p0 z_p0) ++ (w_WD K q_p1 q_p1_bits q_p1_closings f_p1_bits f_p1_closings z_p1_bits y_p1_closings z_p1_pairs)) := hD
      refine lx_iinc (k := 4) (d := 1) hx hb dPT_read_23 hl rfl (by decide +kernel) (by decide) rfl (fun ls hl => ?_)
      refine lv_goto (tgt := 8) hx hb dPT_read_26 (by decide) ?_
      have hf := fz_s hf
      have hf := fz_s hf
      exact IH.1 l3 (iA l4 1) (aw y_t_lasts l4 l4) y_p1_closings _ _ _ hf (lv_sub hl [1, 2, 3, 4, 0] rfl) hP hD hS
  have hb_32 : ∀ (ih : Nat → Nat → Nat → Nat → Nat → Option (Nat × Nat)) (IH : (∀ (l3 l4 y_t_lasts y_p1_closings : Nat) (H : Heap) (locs : List Loc) (ls : Array Slot), ih 0 l3 l4 y_t_lasts y_p1_closings = some r → lv_has ls 6 [(0, .ref q_t), (1, .ref q_p0), (2, .ref q_p1), (3, .int (nI l3)), (4, .int (nI l4))] → va_P (dC, dI) vwCl ((w_PT K q_t q_t_lasts f_t_lasts y_t_lasts) ++ (wArr K 20 q_p0 f_p0 z_p0) ++ (w_WD K q_p1 q_p1_bits q_p1_closings f_p1_bits f_p1_closings z_p1_bits y_p1_closings z_p1_pairs)) H → va_D A ((w_PT K q_t q_t_lasts f_t_lasts y_t_lasts) ++ (wArr K 20 q_p0 f_p0 z_p0) ++ (w_WD K q_p1 q_p1_bits q_p1_closings f_p1_bits f_p1_closings z_p1_bits y_p1_closings z_p1_pairs)) → va_S A s.heap H locs → W p l e (headSpec wc_PT_read rm_PT_read).room s m args below meth c H locs 0 0 Q (F0 m 8 ls [])) ∧ (∀ (l4 y_t_lasts y_p1_closings : Nat) (H : Heap) (locs : List Loc) (ls : Array Slot), ih 1 l4 y_t_lasts y_p1_closings 0 = some r → lv_has ls 6 [(0, .ref q_t), (1, .ref q_p0), (2, .ref q_p1), (4, .int (nI l4))] → va_P (dC, dI) vwCl ((w_PT K q_t q_t_lasts f_t_lasts y_t_lasts) ++ (wArr K 20 q_p0 f_p0 z_p0) ++ (w_WD K q_p1 q_p1_bits q_p1_closings f_p1_bits f_p1_closings z_p1_bits y_p1_closings z_p1_pairs)) H → va_D A ((w_PT K q_t q_t_lasts f_t_lasts y_t_lasts) ++ (wArr K 20 q_p0 f_p0 z_p0) ++ (w_WD K q_p1 q_p1_bits q_p1_closings f_p1_bits f_p1_closings z_p1_bits y_p1_closings z_p1_pairs)) → va_S A s.heap H locs → W p l e (headSpec wc_PT_read rm_PT_read).room s m args below meth c H locs 0 0 Q (F0 m 32 ls []))), ∀ (l4 y_t_lasts y_p1_closings : Nat) (H : Heap) (locs : List Loc) (ls : Array Slot), b_PT_read_32 ih z_t_lasts z_p0 z_p1_closings z_p1_pairs l4 y_t_lasts y_p1_closings = some r → lv_has ls 6 [(0, .ref q_t), (1, .ref q_p0), (2, .ref q_p1), (4, .int (nI l4))] → va_P (dC, dI) vwCl ((w_PT K q_t q_t_lasts f_t_lasts y_t_lasts) ++ (wArr K 20 q_p0 f_p0 z_p0) ++ (w_WD K q_p1 q_p1_bits q_p1_closings f_p1_bits f_p1_closings z_p1_bits y_p1_closings z_p1_pairs)) H → va_D A ((w_PT K q_t q_t_lasts f_t_lasts y_t_lasts) ++ (wArr K 20 q_p0 f_p0 z_p0) ++ (w_WD K q_p1 q_p1_bits q_p1_closings f_p1_bits f_p1_closings z_p1_bits y_p1_closings z_p1_pairs)) → va_S A s.heap H locs → W p l e (headSpec wc_PT_read rm_PT_read).room s m args below meth c H locs 0 0 Q (F0 m 32 ls []) := by
    intro ih IH l4 y_t_lasts y_p1_closings H locs ls hf hl hP hD hS
    unfold b_PT_read_32 at hf
    refine lv_iload hx hb dPT_read_32 (lv_at hl 3 rfl) ?_
    refine lv_iconst (v := nI 1) hx hb dPT_read_34 (by decide +kernel) ?_
    refine lx_icmp_lt (tgt := 97) hx hb dPT_read_35 (by decide) hf (fun hf => ?_) (fun hf => ?_)
    · obtain rfl := Option.some.inj hf
      rw [← hQ]
      exact W.vret hx hb hr (fun t ht hW => ⟨⟨rfl, by rw [ht]; exact hP⟩, hS.F ht⟩) hS.2.2 dPT_read_97
    · refine lv_aload_n hx hb dPT_read_38 rfl (lv_at hl 1 rfl) ?_
      refine lv_iload hx hb dPT_read_39 (lv_at hl 3 rfl) ?_
      refine lx_iald hx hb hK hP 2 0 rfl rfl (by decide) dPT_read_41 hf (fun v4 _ hf => ?_)
      refine lv_istore hx hb dPT_read_42 hl (by decide) rfl (fun ls hl => ?_)
      refine lv_iload hx hb dPT_read_44 (lv_at hl 0 rfl) ?_
      refine lx_if_lt (tgt := 80) hx hb dPT_read_46 (by decide) hf (fun hf => ?_) (fun hf => ?_)
      · exact hj_80 _ IH l4 y_t_lasts y_p1_closings _ _ _ hf (lv_sub hl [1, 2, 3, 4] rfl) hP hD hS
      · refine lv_iload hx hb dPT_read_49 (lv_at hl 0 rfl) ?_
        refine lv_iload hx hb dPT_read_51 (lv_at hl 4 rfl) ?_
        refine lx_icmp_ge (tgt := 80) hx hb dPT_read_53 (by decide) hf (fun hf => ?_) (fun hf => ?_)
        · exact hj_80 _ IH l4 y_t_lasts y_p1_closings _ _ _ hf (lv_sub hl [1, 2, 3, 4] rfl) hP hD hS
        · refine lv_aload_n hx hb dPT_read_56 rfl (lv_at hl 1 rfl) ?_
          refine va_get (D := (dC, dI)) (ci := 2) (v := .ref q_t_lasts) (C := RPT) (T := TPT) (N := 1) hx hb hws uwPT hown hK hP 0 rfl rfl 0 (by decide) (hws _ kf_PT_9) (fun _ h9 => h9) rfl dPT_read_57 ?_
          refine lv_iload hx hb dPT_read_60 (lv_at hl 0 rfl) ?_
          refine lv_aload_n hx hb dPT_read_62 rfl (lv_at hl 1 rfl) ?_
          refine va_get (D := (dC, dI)) (ci := 2) (v := .ref q_t_lasts) (C := RPT) (T := TPT) (N := 1) hx hb hws uwPT hown hK hP 0 rfl rfl 0 (by decide) (hws _ kf_PT_9) (fun _ h9 => h9) rfl dPT_read_63 ?_
          refine lv_iload hx hb dPT_read_66 (lv_at hl 0 rfl) ?_
          refine lx_iald hx hb hK hP 1 0 rfl rfl (by decide) dPT_read_68 hf (fun v5 _ hf => ?_)
          refine lv_aload_n hx hb dPT_read_69 rfl (lv_at hl 1 rfl) ?_
          refine va_get (D := (dC, dI)) (ci := 2) (v := .ref q_t_lasts) (C := RPT) (T := TPT) (N := 1) hx hb hws uwPT hown hK hP 0 rfl rfl 0 (by decide) (hws _ kf_PT_9) (fun _ h9 => h9) rfl dPT_read_70 ?_
          refine lv_iload hx hb dPT_read_73 (lv_at hl 4 rfl) ?_
          refine lx_iald hx hb hK hP 1 0 rfl rfl (by decide) dPT_read_75 hf (fun v6 _ hf => ?_)
          refine lx_mmax hx hb (hml.trans hl.1.symm) hown (hws _ km_PT_28) (hws _ ks_MA_max) (hws _ kz_MA) (hws _ kc_MA_max) (Nat.le_of_ble_eq_true rfl) (Nat.le_of_ble_eq_true rfl) (Nat.le_of_ble_eq_true rfl) (Nat.le_of_ble_eq_true rfl) dPT_read_76 ?_
          refine lx_iast hx hb hK hP hD hS 1 0 rfl rfl (by decide) dPT_read_79 hf (fun hf H locs hP hD hS => ?_)
          have hP : va_P (dC, dI) vwCl ((w_PT K q_t q_t_lasts f_t_lasts (aw y_t_lasts v4 (iMx v5 v6))) ++ (wArr K 20 q_p0 f_p0 z_p0) ++ (w_WD K q_p1 q_p1_bits q_p1_closings f_p1_bits f_p1_closings z_p1_bits y_p1_closings z_p1_pairs)) H := hP
          have hD : va_D A ((w_PT K q_t q_t_lasts f_t_lasts (aw y_t_lasts v4 (iMx v5 v6))) ++ (wArr K 20 q_p0 f_p0 z_p0) ++ (w_WD K q_p1 q_p1_bits q_p1_closings f_p1_bits f_p1_closings z_p1_bits y_p1_closings z_p1_pairs)) := hD
          have hf := fz_s hf
          exact hj_80 _ IH l4 (aw y_t_lasts v4 (iMx v5 v6)) y_p1_closings _ _ _ hf (lv_sub hl [1, 2, 3, 4] rfl) hP hD hS
  have key : ∀ k : Nat, (∀ (l3 l4 y_t_lasts y_p1_closings : Nat) (H : Heap) (locs : List Loc) (ls : Array Slot), fr_PT_read z_t_lasts z_p0 z_p1_closings z_p1_pairs k 0 l3 l4 y_t_lasts y_p1_closings = some r → lv_has ls 6 [(0, .ref q_t), (1, .ref q_p0), (2, .ref q_p1), (3, .int (nI l3)), (4, .int (nI l4))] → va_P (dC, dI) vwCl ((w_PT K q_t q_t_lasts f_t_lasts y_t_lasts) ++ (wArr K 20 q_p0 f_p0 z_p0) ++ (w_WD K q_p1 q_p1_bits q_p1_closings f_p1_bits f_p1_closings z_p1_bits y_p1_closings z_p1_pairs)) H → va_D A ((w_PT K q_t q_t_lasts f_t_lasts y_t_lasts) ++ (wArr K 20 q_p0 f_p0 z_p0) ++ (w_WD K q_p1 q_p1_bits q_p1_closings f_p1_bits f_p1_closings z_p1_bits y_p1_closings z_p1_pairs)) → va_S A s.heap H locs → W p l e (headSpec wc_PT_read rm_PT_read).room s m args below meth c H locs 0 0 Q (F0 m 8 ls [])) ∧ (∀ (l4 y_t_lasts y_p1_closings : Nat) (H : Heap) (locs : List Loc) (ls : Array Slot), fr_PT_read z_t_lasts z_p0 z_p1_closings z_p1_pairs k 1 l4 y_t_lasts y_p1_closings 0 = some r → lv_has ls 6 [(0, .ref q_t), (1, .ref q_p0), (2, .ref q_p1), (4, .int (nI l4))] → va_P (dC, dI) vwCl ((w_PT K q_t q_t_lasts f_t_lasts y_t_lasts) ++ (wArr K 20 q_p0 f_p0 z_p0) ++ (w_WD K q_p1 q_p1_bits q_p1_closings f_p1_bits f_p1_closings z_p1_bits y_p1_closings z_p1_pairs)) H → va_D A ((w_PT K q_t q_t_lasts f_t_lasts y_t_lasts) ++ (wArr K 20 q_p0 f_p0 z_p0) ++ (w_WD K q_p1 q_p1_bits q_p1_closings f_p1_bits f_p1_closings z_p1_bits y_p1_closings z_p1_pairs)) → va_S A s.heap H locs → W p l e (headSpec wc_PT_read rm_PT_read).room s m args below meth c H locs 0 0 Q (F0 m 32 ls [])) := by
    intro k
    induction k with
    | zero => exact ⟨fun l3 l4 y_t_lasts y_p1_closings H locs ls hf _ _ _ _ => no_s (α := Nat × Nat) (r := r) hf, fun l4 y_t_lasts y_p1_closings H locs ls hf _ _ _ _ => no_s (α := Nat × Nat) (r := r) hf⟩
    | succ k IH => exact ⟨fun l3 l4 y_t_lasts y_p1_closings H locs ls hf => hb_8 (fr_PT_read z_t_lasts z_p0 z_p1_closings z_p1_pairs k) IH l3 l4 y_t_lasts y_p1_closings H locs ls ((frs_PT_read_8 z_t_lasts z_p0 z_p1_closings z_p1_pairs k l3 l4 y_t_lasts y_p1_closings).symm.trans hf), fun l4 y_t_lasts y_p1_closings H locs ls hf => hb_32 (fr_PT_read z_t_lasts z_p0 z_p1_closings z_p1_pairs k) IH l4 y_t_lasts y_p1_closings H locs ls ((frs_PT_read_32 z_t_lasts z_p0 z_p1_closings z_p1_pairs k l4 y_t_lasts y_p1_closings).symm.trans hf)⟩
  have IH := key 1000000
  have hf : e_PT_read (fr_PT_read z_t_lasts z_p0 z_p1_closings z_p1_pairs 1000000) z_t_lasts z_p0 z_p1_closings z_p1_pairs = some r := hf
  unfold e_PT_read at hf
  generalize fr_PT_read z_t_lasts z_p0 z_p1_closings z_p1_pairs 1000000 = ih at hf IH
  refine lv_aload_n hx hb dPT_read_0 rfl (lv_at hl 2 rfl) ?_
  obtain ⟨q1, hq, hf⟩ := bd_s hf
  refine ct_callr (ws' := (w_PT K q_t q_t_lasts f_t_lasts z_t_lasts) ++ (wArr K 20 q_p0 f_p0 z_p0) ++ (w_WD K q_p1 q_p1_bits q_p1_closings f_p1_bits f_p1_closings z_p1_bits z_p1_closings z_p1_pairs)) (va_runV (As := []) (rest := []) ⟨hx, hb, hml, hown, hws⟩ (ct_WD_pairs l dC dI K q_p1 q_p1_bits q_p1_closings f_p1_bits f_p1_closings z_p1_bits z_p1_closings z_p1_pairs q1 hq _) ⟨cb_WD_pairs hws rm_WD_pairs (hws _ km_PT_25) ⟨Nat.le_of_ble_eq_true rfl, Nat.le_of_ble_eq_true rfl⟩, hws _ ki_WD_pairs, hws _ ke_WD_WD_pairs_WD_pairs⟩ ⟨ct_blind _ _ _, va_recv (ci := 8) (q0 := 3) (q := (RWD, TWD, 3)) hK hP rfl rfl, ct_pre (cs := (w_WD K q_p1 q_p1_bits q_p1_closings f_p1_bits f_p1_closings z_p1_bits z_p1_closings z_p1_pairs)) hP hD hK [3, 4, 5] (by decide) rfl _⟩ rfl rfl hl.1 rfl (lv_room (Nat.le_of_ble_eq_true rfl)) dPT_read_1 ⟨Nat.le_of_ble_eq_true rfl, Nat.le_of_ble_eq_true rfl⟩) hP hD hS hA [3, 4, 5] rfl rfl rfl rfl (fun H locs hP hD hS => ?_)
  refine lv_istore_n hx hb dPT_read_4 rfl hl (by decide) rfl (fun ls hl => ?_)
  refine lv_iconst (v := nI 0) hx hb dPT_read_5 (by decide +kernel) ?_
  refine lv_istore hx hb dPT_read_6 hl (by decide) rfl (fun ls hl => ?_)
  exact IH.1 q1 0 z_t_lasts z_p1_closings _ _ _ hf (lv_sub hl [2, 3, 4, 1, 0] rfl) hP hD hS
noncomputable def j_PE_write_43 (ih : Nat → Nat → Nat → Option (Nat)) (z_p0_bits : Nat) (z_p0_pairs : Nat) (z_p1 : Nat) (l3 : Nat) (l4 : Nat) (y_p1 : Nat) : Option (Nat) := (fz (iA l4 1) (fun u7 => ih l3 u7 y_p1))
noncomputable def b_PE_write_5 (ih : Nat → Nat → Nat → Option (Nat)) (z_p0_bits : Nat) (z_p0_pairs : Nat) (z_p1 : Nat) (l3 : Nat) (l4 : Nat) (y_p1 : Nat) : Option (Nat) := (Option.bind (f_WD_length z_p0_pairs) (fun q1 => (bif iLt l4 q1 then (Option.bind (f_WD_isOne l4 z_p0_bits z_p0_pairs) (fun q2 => (bif iEq q2 0 then (j_PE_write_43 ih z_p0_bits z_p0_pairs z_p1 l3 l4 y_p1) else (Option.bind (f_WD_fall (iA l4 1) z_p0_bits z_p0_pairs) (fun q3 => (Option.bind (f_WD_zerosBefore q3 z_p0_bits z_p0_pairs) (fun q4 => (bif Nat.blt l3 20 then (fz (iA l3 1) (fun u5 => fz (aw y_p1 l3 (iA q4 1)) (fun u6 => j_PE_write_43 ih z_p0_bits z_p0_pairs z_p1 u5 l4 u6))) else none)))))))) else some y_p1)))
noncomputable def fr_PE_write (z_p0_bits : Nat) (z_p0_pairs : Nat) (z_p1 : Nat) (k : Nat) : Nat → Nat → Nat → Option (Nat) := Nat.rec (motive := fun _ => Nat → Nat → Nat → Option (Nat)) (fun _ _ _ => none) (fun _ ih a0 a1 a2 => b_PE_write_5 ih z_p0_bits z_p0_pairs z_p1 a0 a1 a2) k
theorem frs_PE_write_5 (z_p0_bits : Nat) (z_p0_pairs : Nat) (z_p1 : Nat) (k : Nat) (l3 : Nat) (l4 : Nat) (y_p1 : Nat) : fr_PE_write z_p0_bits z_p0_pairs z_p1 (k + 1) l3 l4 y_p1 = b_PE_write_5 (fr_PE_write z_p0_bits z_p0_pairs z_p1 k) z_p0_bits z_p0_pairs z_p1 l3 l4 y_p1 := rfl
noncomputable def e_PE_write (ih : Nat → Nat → Nat → Option (Nat)) (z_p0_bits : Nat) (z_p0_pairs : Nat) (z_p1 : Nat) : Option (Nat) := (ih 0 0 z_p1)
noncomputable def f_PE_write (z_p0_bits : Nat) (z_p0_pairs : Nat) (z_p1 : Nat) : Option (Nat) := e_PE_write (fr_PE_write z_p0_bits z_p0_pairs z_p1 1000000) z_p0_bits z_p0_pairs z_p1
abbrev rm_PE_write : Room := { frames := 3, cells := 0, slots := 0, locals := 64 }
set_option maxHeartbeats 4000000 in
set_option maxRecDepth 100000 in
theorem ct_PE_write (l : Launch) (dC : Nat → ClassId) (dI : Nat → Nat → Nat) (K : Nat → ClassId) (q_t : Nat) (q_t_openers : Nat) (q_p0 : Nat) (q_p0_bits : Nat) (q_p0_closings : Nat) (q_p1 : Nat) (f_t_openers : Nat → Int32) (f_p0_bits : Nat → Int32) (f_p0_closings : Nat → Int32) (f_p1 : Nat → Int32) (z_t_openers : Nat) (z_p0_bits : Nat) (z_p0_closings : Nat) (z_p0_pairs : Nat) (z_p1 : Nat) (r : Nat) (hf : f_PE_write z_p0_bits z_p0_pairs z_p1 = some r) : Ct l (dC, dI) vwCl yPE_write wc_PE_write rm_PE_write (tyK K) [.ref q_t, .ref q_p0, .ref q_p1] ((w_PE K q_t q_t_openers f_t_openers z_t_openers) ++ (w_WD K q_p0 q_p0_bits q_p0_closings f_p0_bits f_p0_closings z_p0_bits z_p0_closings z_p0_pairs) ++ (wArr K 20 q_p1 f_p1 z_p1)) ((w_PE K q_t q_t_openers f_t_openers z_t_openers) ++ (w_WD K q_p0 q_p0_bits q_p0_closings f_p0_bits f_p0_closings z_p0_bits z_p0_closings z_p0_pairs) ++ (wArr K 20 q_p1 f_p1 r)) none := by
  intro sz
  refine Met.ofW (cc := cPE_write) (maxL := 5) (ret := none) (by decide) rfl ?_
  intro p e s m args below meth c s₁ B hml hv
  obtain ⟨rfl, hsz, hP, hK, hD0⟩ := hv
  have hx := B.exec
  have hb := B.bytes
  have hr := B.returns
  have hts := atoms_spec (ws := wc_PE_write) B.pre
  have hws : ∀ w ∈ WS, w.before _ s = true := fun w h => hts w (List.mem_cons_of_mem _ h)
  have hown : s.vm.findClass RPE = some m.cls := findClass_of_methodNamed B.named
  have hlocks := B.notSynchronized
  subst hsz
  have hD := hD0.self (sz := s.heap.size)
  generalize hAe : va_A ((w_PE K q_t q_t_openers f_t_openers z_t_openers) ++ (w_WD K q_p0 q_p0_bits q_p0_closings f_p0_bits f_p0_closings z_p0_bits z_p0_closings z_p0_pairs) ++ (wArr K 20 q_p1 f_p1 z_p1)) s.heap.size = A at hD ⊢
  have hA : ∀ q : Nat, s.heap.size ≤ q → A q := fun q h => by rw [← hAe]; exact Or.inr h
  have hS : va_S A s.heap s.heap [] := va_S.rf
  have hl := lv_entry ([.ref q_t, .ref q_p0, .ref q_p1]) (n := 5) (Nat.le_of_ble_eq_true rfl)
  rw [lg_entry_eq]
  generalize (lg_sl ([.ref q_t, .ref q_p0, .ref q_p1]) ++ List.replicate (5 - (lg_sl ([.ref q_t, .ref q_p0, .ref q_p1])).length) Slot.unset).toArray = ls at hl ⊢
  have hl : lv_has ls 5 [(0, .ref q_t), (1, .ref q_p0), (2, .ref q_p1)] := hl
  generalize ([.ref q_t, .ref q_p0, .ref q_p1] : List Value).toArray = args at hts hws ⊢
  generalize hQ : MQ below _ _ _ _ _ _ = Q
  have hj_43 : ∀ (ih : Nat → Nat → Nat → Option (Nat)) (IH : (∀ (l3 l4 y_p1 : Nat) (H : Heap) (locs : List Loc) (ls : Array Slot), ih l3 l4 y_p1 = some r → lv_has ls 5 [(1, .ref q_p0), (2, .ref q_p1), (3, .int (nI l3)), (4, .int (nI l4))] → va_P (dC, dI) vwCl ((w_PE K q_t q_t_openers f_t_openers z_t_openers) ++ (w_WD K q_p0 q_p0_bits q_p0_closings f_p0_bits f_p0_closings z_p0_bits z_p0_closings z_p0_pairs) ++ (wArr K 20 q_p1 f_p1 y_p1)) H → va_D A ((w_PE K q_t q_t_openers f_t_openers z_t_openers) ++ (w_WD K q_p0 q_p0_bits q_p0_closings f_p0_bits f_p0_closings z_p0_bits z_p0_closings z_p0_pairs) ++ (wArr K 20 q_p1 f_p1 y_p1)) → va_S A s.heap H locs → W p l e (headSpec wc_PE_write rm_PE_write).room s m args below meth c H locs 0 0 Q (F0 m 5 ls []))), ∀ (l3 l4 y_p1 : Nat) (H : Heap) (locs : List Loc) (ls : Array Slot), j_PE_write_43 ih z_p0_bits z_p0_pairs z_p1 l3 l4 y_p1 = some r → lv_has ls 5 [(1, .ref q_p0), (2, .ref q_p1), (3, .int (nI l3)), (4, .int (nI l4))] → va_P (dC, dI) vwCl ((w_PE K q_t q_t_openers f_t_openers z_t_openers) ++ (w_WD K q_p0 q_p0_bits q_p0_closings f_p0_bits f_p0_closings z_p0_bits z_p0_closings z_p0_pairs) ++ (wArr K 20 q_p1 f_p1 y_p1)) H → va_D A ((w_PE K q_t q_t_openers f_t_openers z_t_openers) ++ (w_WD K q_p0 q_p0_bits q_p0_closings f_p0_bits f_p0_closings z_p0_bits z_p0_closings z_p0_pairs) ++ (wArr K 20 q_p1 f_p1 y_p1)) → va_S A s.heap H locs → W p l e (headSpec wc_PE_write rm_PE_write).room s m args below meth c H locs 0 0 Q (F0 m 43 ls []) := by
    intro ih IH l3 l4 y_p1 H locs ls hf hl hP hD hS
    unfold j_PE_write_43 at hf
    refine lx_iinc (k := 3) (d := 1) hx hb dPE_write_43 hl rfl (by decide +kernel) (by decide) rfl (fun ls hl => ?_)
    refine lv_goto (tgt := 5) hx hb dPE_write_46 (by decide) ?_
    have hf := fz_s hf
    exact IH l3 (iA l4 1) y_p1 _ _ _ hf (lv_sub hl [1, 2, 3, 0] rfl) hP hD hS
  have hb_5 : ∀ (ih : Nat → Nat → Nat → Option (Nat)) (IH : (∀ (l3 l4 y_p1 : Nat) (H : Heap) (locs : List Loc) (ls : Array Slot), ih l3 l4 y_p1 = some r → lv_has ls 5 [(1, .ref q_p0), (2, .ref q_p1), (3, .int (nI l3)), (4, .int (nI l4))] → va_P (dC, dI) vwCl ((w_PE K q_t q_t_openers f_t_openers z_t_openers) ++ (w_WD K q_p0 q_p0_bits q_p0_closings f_p0_bits f_p0_closings z_p0_bits z_p0_closings z_p0_pairs) ++ (wArr K 20 q_p1 f_p1 y_p1)) H → va_D A ((w_PE K q_t q_t_openers f_t_openers z_t_openers) ++ (w_WD K q_p0 q_p0_bits q_p0_closings f_p0_bits f_p0_closings z_p0_bits z_p0_closings z_p0_pairs) ++ (wArr K 20 q_p1 f_p1 y_p1)) → va_S A s.heap H locs → W p l e (headSpec wc_PE_write rm_PE_write).room s m args below meth c H locs 0 0 Q (F0 m 5 ls []))), ∀ (l3 l4 y_p1 : Nat) (H : Heap) (locs : List Loc) (ls : Array Slot), b_PE_write_5 ih z_p0_bits z_p0_pairs z_p1 l3 l4 y_p1 = some r → lv_has ls 5 [(1, .ref q_p0), (2, .ref q_p1), (3, .int (nI l3)), (4, .int (nI l4))] → va_P (dC, dI) vwCl ((w_PE K q_t q_t_openers f_t_openers z_t_openers) ++ (w_WD K q_p0 q_p0_bits q_p0_closings f_p0_bits f_p0_closings z_p0_bits z_p0_closings z_p0_pairs) ++ (wArr K 20 q_p1 f_p1 y_p1)) H → va_D A ((w_PE K q_t q_t_openers f_t_openers z_t_openers) ++ (w_WD K q_p0 q_p0_bits q_p0_closings f_p0_bits f_p0_closings z_p0_bits z_p0_closings z_p0_pairs) ++ (wArr K 20 q_p1 f_p1 y_p1)) → va_S A s.heap H locs → W p l e (headSpec wc_PE_write rm_PE_write).room s m args below meth c H locs 0 0 Q (F0 m 5 ls []) := by
    intro ih IH l3 l4 y_p1 H locs ls hf hl hP hD hS
    unfold b_PE_write_5 at hf
    refine lv_iload hx hb dPE_write_5 (lv_at hl 3 rfl) ?_
    refine lv_aload_n hx hb dPE_write_7 rfl (lv_at hl 0 rfl) ?_
    obtain ⟨q1, hq, hf⟩ := bd_s hf
    refine ct_callr (ws' := (w_PE K q_t q_t_openers f_t_openers z_t_openers) ++ (w_WD K q_p0 q_p0_bits q_p0_closings f_p0_bits f_p0_closings z_p0_bits z_p0_closings z_p0_pairs) ++ (wArr K 20 q_p1 f_p1 y_p1)) (va_runV (As := []) (rest := [.int (nI l4)]) ⟨hx, hb, hml, hown, hws⟩ (ct_WD_length l dC dI K q_p0 q_p0_bits q_p0_closings f_p0_bits f_p0_closings z_p0_bits z_p0_closings z_p0_pairs q1 hq _) ⟨cb_WD_length hws rm_WD_length (hws _ km_PE_15) ⟨Nat.le_of_ble_eq_true rfl, Nat.le_of_ble_eq_true rfl⟩, hws _ ki_WD_length, hws _ ke_WD_WD_length_WD_length⟩ ⟨ct_blind _ _ _, va_recv (ci := 8) (q0 := 2) (q := (RWD, TWD, 3)) hK hP rfl rfl, ct_pre (cs := (w_WD K q_p0 q_p0_bits q_p0_closings f_p0_bits f_p0_closings z_p0_bits z_p0_closings z_p0_pairs)) hP hD hK [2, 3, 4] (by decide) rfl _⟩ rfl rfl hl.1 rfl (lv_room (Nat.le_of_ble_eq_true rfl)) dPE_write_8 ⟨Nat.le_of_ble_eq_true rfl, Nat.le_of_ble_eq_true rfl⟩) hP hD hS hA [2, 3, 4] rfl rfl rfl rfl (fun H locs hP hD hS => ?_)
    refine lx_icmp_ge (tgt := 49) hx hb dPE_write_11 (by decide) hf (fun hf => ?_) (fun hf => ?_)
    · obtain rfl := Option.some.inj hf
      rw [← hQ]
      exact W.vret hx hb hr (fun t ht hW => ⟨⟨rfl, by rw [ht]; exact hP⟩, hS.F ht⟩) hS.2.2 dPE_write_49
    · refine lv_aload_n hx hb dPE_write_14 rfl (lv_at hl 0 rfl) ?_
      refine lv_iload hx hb dPE_write_15 (lv_at hl 3 rfl) ?_
      obtain ⟨q2, hq, hf⟩ := bd_s hf
      refine ct_callr (ws' := (w_PE K q_t q_t_openers f_t_openers z_t_openers) ++ (w_WD K q_p0 q_p0_bits q_p0_closings f_p0_bits f_p0_closings z_p0_bits z_p0_closings z_p0_pairs) ++ (wArr K 20 q_p1 f_p1 y_p1)) (va_runV (As := [.int (nI l4)]) (rest := []) ⟨hx, hb, hml, hown, hws⟩ (ct_WD_isOne l dC dI K q_p0 q_p0_bits q_p0_closings f_p0_bits f_p0_closings l4 z_p0_bits z_p0_closings z_p0_pairs q2 hq _) ⟨cb_WD_isOne hws rm_WD_isOne (hws _ km_PE_21) ⟨Nat.le_of_ble_eq_true rfl, Nat.le_of_ble_eq_true rfl⟩, hws _ ki_WD_isOne, hws _ ke_WD_WD_isOne_WD_isOne⟩ ⟨ct_blind _ _ _, va_recv (ci := 8) (q0 := 2) (q := (RWD, TWD, 3)) hK hP rfl rfl, ct_pre (cs := (w_WD K q_p0 q_p0_bits q_p0_closings f_p0_bits f_p0_closings z_p0_bits z_p0_closings z_p0_pairs)) hP hD hK [2, 3, 4] (by decide) rfl _⟩ rfl rfl hl.1 rfl (lv_room (Nat.le_of_ble_eq_true rfl)) dPE_write_17 ⟨Nat.le_of_ble_eq_true rfl, Nat.le_of_ble_eq_true rfl⟩) hP hD hS hA [2, 3, 4] rfl rfl rfl rfl (fun H locs hP hD hS => ?_)
      refine lx_if_eq (tgt := 43) hx hb dPE_write_20 (by decide) hf (fun hf => ?_) (fun hf => ?_)
      · exact hj_43 _ IH l3 l4 y_p1 _ _ _ hf (lv_sub hl [0, 1, 2, 3] rfl) hP hD hS
      · refine lv_aload_n hx hb dPE_write_23 rfl (lv_at hl 1 rfl) ?_
        refine lv_iload_n hx hb dPE_write_24 rfl (lv_at hl 2 rfl) ?_
        refine lv_aload_n hx hb dPE_write_25 rfl (lv_at hl 0 rfl) ?_
        refine lv_aload_n hx hb dPE_write_26 rfl (lv_at hl 0 rfl) ?_
        refine lv_iload hx hb dPE_write_27 (lv_at hl 3 rfl) ?_
        refine lv_iconst (v := nI 1) hx hb dPE_write_29 (by decide +kernel) ?_
        refine lx_iadd hx hb dPE_write_30 ?_
        obtain ⟨q3, hq, hf⟩ := bd_s hf
        refine ct_callr (ws' := (w_PE K q_t q_t_openers f_t_openers z_t_openers) ++ (w_WD K q_p0 q_p0_bits q_p0_closings f_p0_bits f_p0_closings z_p0_bits z_p0_closings z_p0_pairs) ++ (wArr K 20 q_p1 f_p1 y_p1)) (va_runV (As := [.int (nI (iA l4 1))]) (rest := [.ref q_p0, .int (nI l3), .ref q_p1]) ⟨hx, hb, hml, hown, hws⟩ (ct_WD_fall l dC dI K q_p0 q_p0_bits q_p0_closings f_p0_bits f_p0_closings (iA l4 1) z_p0_bits z_p0_closings z_p0_pairs q3 hq _) ⟨cb_WD_fall hws rm_WD_fall (hws _ km_PE_25) ⟨Nat.le_of_ble_eq_true rfl, Nat.le_of_ble_eq_true rfl⟩, hws _ ki_WD_fall, hws _ ke_WD_WD_fall_WD_fall⟩ ⟨ct_blind _ _ _, va_recv (ci := 8) (q0 := 2) (q := (RWD, TWD, 3)) hK hP rfl rfl, ct_pre (cs := (w_WD K q_p0 q_p0_bits q_p0_closings f_p0_bits f_p0_closings z_p0_bits z_p0_closings z_p0_pairs)) hP hD hK [2, 3, 4] (by decide) rfl _⟩ rfl rfl hl.1 rfl (lv_room (Nat.le_of_ble_eq_true rfl)) dPE_write_31 ⟨Nat.le_of_ble_eq_true rfl, Nat.le_of_ble_eq_true rfl⟩) hP hD hS hA [2, 3, 4] rfl rfl rfl rfl (fun H locs hP hD hS => ?_)
        obtain ⟨q4, hq, hf⟩ := bd_s hf
        refine ct_callr (ws' := (w_PE K q_t q_t_openers f_t_openers z_t_openers) ++ (w_WD K q_p0 q_p0_bits q_p0_closings f_p0_bits f_p0_closings z_p0_bits z_p0_closings z_p0_pairs) ++ (wArr K 20 q_p1 f_p1 y_p1)) (va_runV (As := [.int (nI q3)]) (rest := [.int (nI l3), .ref q_p1]) ⟨hx, hb, hml, hown, hws⟩ (ct_WD_zerosBefore l dC dI K q_p0 q_p0_bits q_p0_closings f_p0_bits f_p0_closings q3 z_p0_bits z_p0_closings z_p0_pairs q4 hq _) ⟨cb_WD_zerosBefore hws rm_WD_zerosBefore (hws _ km_PE_29) ⟨Nat.le_of_ble_eq_true rfl, Nat.le_of_ble_eq_true rfl⟩, hws _ ki_WD_zerosBefore, hws _ ke_WD_WD_zerosBefore_WD_zerosBefore⟩ ⟨ct_blind _ _ _, va_recv (ci := 8) (q0 := 2) (q := (RWD, TWD, 3)) hK hP rfl rfl, ct_pre (cs := (w_WD K q_p0 q_p0_bits q_p0_closings f_p0_bits f_p0_closings z_p0_bits z_p0_closings z_p0_pairs)) hP hD hK [2, 3, 4] (by decide) rfl _⟩ rfl rfl hl.1 rfl (lv_room (Nat.le_of_ble_eq_true rfl)) dPE_write_34 ⟨Nat.le_of_ble_eq_true rfl, Nat.le_of_ble_eq_true rfl⟩) hP hD hS hA [2, 3, 4] rfl rfl rfl rfl (fun H locs hP hD hS => ?_)
        refine lv_iconst (v := nI 1) hx hb dPE_write_37 (by decide +kernel) ?_
        refine lx_iadd hx hb dPE_write_38 ?_
        refine lx_iast hx hb hK hP hD hS 5 0 rfl rfl (by decide) dPE_write_39 hf (fun hf H locs hP hD hS => ?_)
        have hP : va_P (dC, dI) vwCl ((w_PE K q_t q_t_openers f_t_openers z_t_openers) ++ (w_WD K q_p0 q_p0_bits q_p0_closings f_p0_bits f_p0_closings z_p0_bits z_p0_closings z_p0_pairs) ++ (wArr K 20 q_p1 f_p1 (aw y_p1 l3 (iA q4 1)))) H := hP
        have hD : va_D A ((w_PE K q_t q_t_openers f_t_openers z_t_openers) ++ (w_WD K q_p0 q_p0_bits q_p0_closings f_p0_bits f_p0_closings z_p0_bits z_p0_closings z_p0_pairs) ++ (wArr K 20 q_p1 f_p1 (aw y_p1 l3 (iA q4 1)))) := hD
        refine lx_iinc (k := 2) (d := 1) hx hb dPE_write_40 hl rfl (by decide +kernel) (by decide) rfl (fun ls hl => ?_)
        have hf := fz_s hf
        have hf := fz_s hf
        exact hj_43 _ IH (iA l3 1) l4 (aw y_p1 l3 (iA q4 1)) _ _ _ hf (lv_sub hl [1, 2, 0, 3] rfl) hP hD hS
  have key : ∀ k : Nat, (∀ (l3 l4 y_p1 : Nat) (H : Heap) (locs : List Loc) (ls : Array Slot), fr_PE_write z_p0_bits z_p0_pairs z_p1 k l3 l4 y_p1 = some r → lv_has ls 5 [(1, .ref q_p0), (2, .ref q_p1), (3, .int (nI l3)), (4, .int (nI l4))] → va_P (dC, dI) vwCl ((w_PE K q_t q_t_openers f_t_openers z_t_openers) ++ (w_WD K q_p0 q_p0_bits q_p0_closings f_p0_bits f_p0_closings z_p0_bits z_p0_closings z_p0_pairs) ++ (wArr K 20 q_p1 f_p1 y_p1)) H → va_D A ((w_PE K q_t q_t_openers f_t_openers z_t_openers) ++ (w_WD K q_p0 q_p0_bits q_p0_closings f_p0_bits f_p0_closings z_p0_bits z_p0_closings z_p0_pairs) ++ (wArr K 20 q_p1 f_p1 y_p1)) → va_S A s.heap H locs → W p l e (headSpec wc_PE_write rm_PE_write).room s m args below meth c H locs 0 0 Q (F0 m 5 ls [])) := by
    intro k
    induction k with
    | zero => exact fun l3 l4 y_p1 H locs ls hf _ _ _ _ => no_s (α := Nat) (r := r) hf
    | succ k IH => exact fun l3 l4 y_p1 H locs ls hf => hb_5 (fr_PE_write z_p0_bits z_p0_pairs z_p1 k) IH l3 l4 y_p1 H locs ls ((frs_PE_write_5 z_p0_bits z_p0_pairs z_p1 k l3 l4 y_p1).symm.trans hf)
  have IH := key 1000000
  have hf : e_PE_write (fr_PE_write z_p0_bits z_p0_pairs z_p1 1000000) z_p0_bits z_p0_pairs z_p1 = some r := hf
  unfold e_PE_write at hf
  generalize fr_PE_write z_p0_bits z_p0_pairs z_p1 1000000 = ih at hf IH
  refine lv_iconst (v := nI 0) hx hb dPE_write_0 (by decide +kernel) ?_
  refine lv_istore_n hx hb dPE_write_1 rfl hl (by decide) rfl (fun ls hl => ?_)
  refine lv_iconst (v := nI 0) hx hb dPE_write_2 (by decide +kernel) ?_
  refine lv_istore hx hb dPE_write_3 hl (by decide) rfl (fun ls hl => ?_)
  exact IH 0 0 z_p1 _ _ _ hf (lv_sub hl [3, 4, 1, 0] rfl) hP hD hS
noncomputable def j_PE_read_51 (ih : Nat → Nat → Nat → Nat → Nat → Nat → Option (Nat × Nat)) (z_t_openers : Nat) (z_p0 : Nat) (z_p1_closings : Nat) (z_p1_pairs : Nat) (l3 : Nat) (l4 : Nat) (y_t_openers : Nat) (y_p1_closings : Nat) : Option (Nat × Nat) := (fz (iA l4 1) (fun u9 => ih 0 l3 u9 y_t_openers y_p1_closings 0))
noncomputable def b_PE_read_16 (ih : Nat → Nat → Nat → Nat → Nat → Nat → Option (Nat × Nat)) (z_t_openers : Nat) (z_p0 : Nat) (z_p1_closings : Nat) (z_p1_pairs : Nat) (l3 : Nat) (l4 : Nat) (y_t_openers : Nat) (y_p1_closings : Nat) : Option (Nat × Nat) := (bif iLt l3 l4 then (ih 1 l3 0 1 y_t_openers y_p1_closings) else (rd z_p0 20 (iS l4 1) (fun v3 => (bif iLt v3 1 then (j_PE_read_51 ih z_t_openers z_p0 z_p1_closings z_p1_pairs l3 l4 y_t_openers y_p1_closings) else (bif iLt l3 v3 then (j_PE_read_51 ih z_t_openers z_p0 z_p1_closings z_p1_pairs l3 l4 y_t_openers y_p1_closings) else (bif Nat.blt v3 10 then (fz (aw y_t_openers v3 l4) (fun u4 => j_PE_read_51 ih z_t_openers z_p0 z_p1_closings z_p1_pairs l3 l4 u4 y_p1_closings)) else none))))))
noncomputable def b_PE_read_63 (ih : Nat → Nat → Nat → Nat → Nat → Nat → Option (Nat × Nat)) (z_t_openers : Nat) (z_p0 : Nat) (z_p1_closings : Nat) (z_p1_pairs : Nat) (l3 : Nat) (l4 : Nat) (l5 : Nat) (y_t_openers : Nat) (y_p1_closings : Nat) : Option (Nat × Nat) := (bif iLt l3 l5 then some (y_t_openers, y_p1_closings) else (rd y_t_openers 10 l5 (fun v5 => (Option.bind (f_WD_closeAfter (iMx l4 v5) y_p1_closings z_p1_pairs) (fun q6 => (fz (iMx l4 v5) (fun u7 => fz (iA l5 1) (fun u8 => ih 1 l3 u7 u8 y_t_openers q6))))))))
noncomputable def fr_PE_read (z_t_openers : Nat) (z_p0 : Nat) (z_p1_closings : Nat) (z_p1_pairs : Nat) (k : Nat) : Nat → Nat → Nat → Nat → Nat → Nat → Option (Nat × Nat) := Nat.rec (motive := fun _ => Nat → Nat → Nat → Nat → Nat → Nat → Option (Nat × Nat)) (fun _ _ _ _ _ _ => none) (fun _ ih hh a0 a1 a2 a3 a4 => (Nat.rec (motive := fun _ => Option (Nat × Nat)) (b_PE_read_16 ih z_t_openers z_p0 z_p1_closings z_p1_pairs a0 a1 a2 a3) (fun h0 _ => (Nat.rec (motive := fun _ => Option (Nat × Nat)) (b_PE_read_63 ih z_t_openers z_p0 z_p1_closings z_p1_pairs a0 a1 a2 a3 a4) (fun h1 _ => none) h0)) hh)) k
theorem frs_PE_read_16 (z_t_openers : Nat) (z_p0 : Nat) (z_p1_closings : Nat) (z_p1_pairs : Nat) (k : Nat) (l3 : Nat) (l4 : Nat) (y_t_openers : Nat) (y_p1_closings : Nat) : fr_PE_read z_t_openers z_p0 z_p1_closings z_p1_pairs (k + 1) 0 l3 l4 y_t_openers y_p1_closings 0 = b_PE_read_16 (fr_PE_read z_t_openers z_p0 z_p1_closings z_p1_pairs k) z_t_openers z_p0 z_p1_closings z_p1_pairs l3 l4 y_t_openers y_p1_closings := rfl
theorem frs_PE_read_63 (z_t_openers : Nat) (z_p0 : Nat) (z_p1_closings : Nat) (z_p1_pairs : Nat) (k : Nat) (l3 : Nat) (l4 : Nat) (l5 : Nat) (y_t_openers : Nat) (y_p1_closings : Nat) : fr_PE_read z_t_openers z_p0 z_p1_closings z_p1_pairs (k + 1) 1 l3 l4 l5 y_t_openers y_p1_closings = b_PE_read_63 (fr_PE_read z_t_openers z_p0 z_p1_closings z_p1_pairs k) z_t_openers z_p0 z_p1_closings z_p1_pairs l3 l4 l5 y_t_openers y_p1_closings := rfl
noncomputable def e_PE_read (ih : Nat → Nat → Nat → Nat → Nat → Nat → Option (Nat × Nat)) (z_t_openers : Nat) (z_p0 : Nat) (z_p1_closings : Nat) (z_p1_pairs : Nat) : Option (Nat × Nat) := (Option.bind (f_WD_pairs z_p1_pairs) (fun q1 => (Option.bind (f_AR_fill10 0 z_t_openers) (fun q2 => (ih 0 q1 1 q2 z_p1_closings 0)))))
noncomputable def f_PE_read (z_t_openers : Nat) (z_p0 : Nat) (z_p1_closings : Nat) (z_p1_pairs : Nat) : Option (Nat × Nat) := e_PE_read (fr_PE_read z_t_openers z_p0 z_p1_closings z_p1_pairs 1000000) z_t_openers z_p0 z_p1_closings z_p1_pairs
abbrev rm_PE_read : Room := { frames := 1, cells := 0, slots := 0, locals := 23 }
set_option maxHeartbeats 4000000 in
set_option maxRecDepth 100000 in
theorem ct_PE_read (l : Launch) (dC : Nat → ClassId) (dI : Nat → Nat → Nat) (K : Nat → ClassId) (q_t : Nat) (q_t_openers : Nat) (q_p0 : Nat) (q_p1 : Nat) (q_p1_bits : Nat) (q_p1_closings : Nat) (f_t_openers : Nat → Int32) (f_p0 : Nat → Int32) (f_p1_bits : Nat → Int32) (f_p1_closings : Nat → Int32) (z_t_openers : Nat) (z_p0 : Nat) (z_p1_bits : Nat) (z_p1_closings : Nat) (z_p1_pairs : Nat) (r : Nat × Nat) (hf : f_PE_read z_t_openers z_p0 z_p1_closings z_p1_pairs = some r) : Ct l (dC, dI) vwCl yPE_read wc_PE_read rm_PE_read (tyK K) [.ref q_t, .ref q_p0, .ref q_p1] ((w_PE K q_t q_t_openers f_t_openers z_t_openers) ++ (wArr K 20 q_p0 f_p0 z_p0) ++ (w_WD K q_p1 q_p1_bits q_p1_closings f_p1_bits f_p1_closings z_p1_bits z_p1_closings z_p1_pairs)) ((w_PE K q_t q_t_openers f_t_openers r.1) ++ (wArr K 20 q_p0 f_p0 z_p0) ++ (w_WD K q_p1 q_p1_bits q_p1_closings f_p1_bits f_p1_closings z_p1_bits r.2 z_p1_pairs)) none := by
  intro sz
  refine Met.ofW (cc := cPE_read) (maxL := 6) (ret := none) (by decide) rfl ?_
  intro p e s m args below meth c s₁ B hml hv
  obtain ⟨rfl, hsz, hP, hK, hD0⟩ := hv
  have hx := B.exec
  have hb := B.bytes
  have hr := B.returns
  have hts := atoms_spec (ws := wc_PE_read) B.pre
  have hws : ∀ w ∈ WS, w.before _ s = true := fun w h => hts w (List.mem_cons_of_mem _ h)
  have hown : s.vm.findClass RPE = some m.cls := findClass_of_methodNamed B.named
  have hlocks := B.notSynchronized
  subst hsz
  have hD := hD0.self (sz := s.heap.size)
  generalize hAe : va_A ((w_PE K q_t q_t_openers f_t_openers z_t_openers) ++ (wArr K 20 q_p0 f_p0 z_p0) ++ (w_WD K q_p1 q_p1_bits q_p1_closings f_p1_bits f_p1_closings z_p1_bits z_p1_closings z_p1_pairs)) s.heap.size = A at hD ⊢
  have hA : ∀ q : Nat, s.heap.size ≤ q → A q := fun q h => by rw [← hAe]; exact Or.inr h
  have hS : va_S A s.heap s.heap [] := va_S.rf
  have hl := lv_entry ([.ref q_t, .ref q_p0, .ref q_p1]) (n := 6) (Nat.le_of_ble_eq_true rfl)
  rw [lg_entry_eq]
  generalize (lg_sl ([.ref q_t, .ref q_p0, .ref q_p1]) ++ List.replicate (6 - (lg_sl ([.ref q_t, .ref q_p0, .ref q_p1])).length) Slot.unset).toArray = ls at hl ⊢
  have hl : lv_has ls 6 [(0, .ref q_t), (1, .ref q_p0), (2, .ref q_p1)] := hl
  generalize ([.ref q_t, .ref q_p0, .ref q_p1] : List Value).toArray = args at hts hws ⊢
  generalize hQ : MQ below _ _ _ _ _ _ = Q
  have hj_51 : ∀ (ih : Nat → Nat → Nat → Nat → Nat → Nat → Option (Nat × Nat)) (IH : (∀ (l3 l4 y_t_openers y_p1_closings : Nat) (H : Heap) (locs : List Loc) (ls : Array Slot), ih 0 l3 l4 y_t_openers y_p1_closings 0 = some r → lv_has ls 6 [(0, .ref q_t), (1, .ref q_p0), (2, .ref q_p1), (3, .int (nI l3)), (4, .int (nI l4))] → va_P (dC, dI) vwCl ((w_PE K q_t q_t_openers f_t_openers y_t_openers) ++ (wArr K 20 q_p0 f_p0 z_p0) ++ (w_WD K q_p1 q_p1_bits q_p1_closings f_p1_bits f_p1_closings z_p1_bits y_p1_closings z_p1_pairs)) H → va_D A ((w_PE K q_t q_t_openers f_t_openers y_t_openers) ++ (wArr K 20 q_p0 f_p0 z_p0) ++ (w_WD K q_p1 q_p1_bits q_p1_closings f_p1_bits f_p1_closings z_p1_bits y_p1_closings z_p1_pairs)) → va_S A s.heap H locs → W p l e (headSpec wc_PE_read rm_PE_read).room s m args below meth c H locs 0 0 Q (F0 m 16 ls [])) ∧ (∀ (l3 l4 l5 y_t_openers y_p1_closings : Nat) (H : Heap) (locs : List Loc) (ls : Array Slot), ih 1 l3 l4 l5 y_t_openers y_p1_closings = some r → lv_has ls 6 [(0, .ref q_t), (2, .ref q_p1), (3, .int (nI l3)), (4, .int (nI l4)), (5, .int (nI l5))] → va_P (dC, dI) vwCl ((w_PE K q_t q_t_openers f_t_openers y_t_openers) ++ (wArr K 20 q_p0 f_p0 z_p0) ++ (w_WD K q_p1 q_p1_bits q_p1_closings f_p1_bits f_p1_closings z_p1_bits y_p1_closings z_p1_pairs)) H → va_D A ((w_PE K q_t q_t_openers f_t_openers y_t_openers) ++ (wArr K 20 q_p0 f_p0 z_p0) ++ (w_WD K q_p1 q_p1_bits q_p1_closings f_p1_bits f_p1_closings z_p1_bits y_p1_closings z_p1_pairs)) → va_S A s.heap H locs → W p l e (headSpec wc_PE_read rm_PE_read).room s m args below meth c H locs 0 0 Q (F0 m 63 ls []))), ∀ (l3 l4 y_t_openers y_p1_closings : Nat) (H : Heap) (locs : List Loc) (ls : Array Slot), j_PE_read_51 ih z_t_openers z_p0 z_p1_closings z_p1_pairs l3 l4 y_t_openers y_p1_closings = some r → lv_has ls 6 [(0, .ref q_t), (1, .ref q_p0), (2, .ref q_p1), (3, .int (nI l3)), (4, .int (nI l4))] → va_P (dC, dI) vwCl ((w_PE K q_t q_t_openers f_t_openers y_t_openers) ++ (wArr K 20 q_p0 f_p0 z_p0) ++ (w_WD K q_p1 q_p1_bits q_p1_closings f_p1_bits f_p1_closings z_p1_bits y_p1_closings z_p1_pairs)) H → va_D A ((w_PE K q_t q_t_openers f_t_openers y_t_openers) ++ (wArr K 20 q_p0 f_p0 z_p0) ++ (w_WD K q_p1 q_p1_bits q_p1_closings f_p1_bits f_p1_closings z_p1_bits y_p1_closings z_p1_pairs)) → va_S A s.heap H locs → W p l e (headSpec wc_PE_read rm_PE_read).room s m args below meth c H locs 0 0 Q (F0 m 51 ls []) := by
    intro ih IH l3 l4 y_t_openers y_p1_closings H locs ls hf hl hP hD hS
    unfold j_PE_read_51 at hf
    refine lx_iinc (k := 4) (d := 1) hx hb dPE_read_51 hl rfl (by decide +kernel) (by decide) rfl (fun ls hl => ?_)
    refine lv_goto (tgt := 16) hx hb dPE_read_54 (by decide) ?_
    have hf := fz_s hf
    exact IH.1 l3 (iA l4 1) y_t_openers y_p1_closings _ _ _ hf (lv_sub hl [1, 2, 3, 4, 0] rfl) hP hD hS
  have hb_16 : ∀ (ih : Nat → Nat → Nat → Nat → Nat → Nat → Option (Nat × Nat)) (IH : (∀ (l3 l4 y_t_openers y_p1_closings : Nat) (H : Heap) (locs : List Loc) (ls : Array Slot), ih 0 l3 l4 y_t_openers y_p1_closings 0 = some r → lv_has ls 6 [(0, .ref q_t), (1, .ref q_p0), (2, .ref q_p1), (3, .int (nI l3)), (4, .int (nI l4))] → va_P (dC, dI) vwCl ((w_PE K q_t q_t_openers f_t_openers y_t_openers) ++ (wArr K 20 q_p0 f_p0 z_p0) ++ (w_WD K q_p1 q_p1_bits q_p1_closings f_p1_bits f_p1_closings z_p1_bits y_p1_closings z_p1_pairs)) H → va_D A ((w_PE K q_t q_t_openers f_t_openers y_t_openers) ++ (wArr K 20 q_p0 f_p0 z_p0) ++ (w_WD K q_p1 q_p1_bits q_p1_closings f_p1_bits f_p1_closings z_p1_bits y_p1_closings z_p1_pairs)) → va_S A s.heap H locs → W p l e (headSpec wc_PE_read rm_PE_read).room s m args below meth c H locs 0 0 Q (F0 m 16 ls [])) ∧ (∀ (l3 l4 l5 y_t_openers y_p1_closings : Nat) (H : Heap) (locs : List Loc) (ls : Array Slot), ih 1 l3 l4 l5 y_t_openers y_p1_closings = some r → lv_has ls 6 [(0, .ref q_t), (2, .ref q_p1), (3, .int (nI l3)), (4, .int (nI l4)), (5, .int (nI l5))] → va_P (dC, dI) vwCl ((w_PE K q_t q_t_openers f_t_openers y_t_openers) ++ (wArr K 20 q_p0 f_p0 z_p0) ++ (w_WD K q_p1 q_p1_bits q_p1_closings f_p1_bits f_p1_closings z_p1_bits y_p1_closings z_p1_pairs)) H → va_D A ((w_PE K q_t q_t_openers f_t_openers y_t_openers) ++ (wArr K 20 q_p0 f_p0 z_p0) ++ (w_WD K q_p1 q_p1_bits q_p1_closings f_p1_bits f_p1_closings z_p1_bits y_p1_closings z_p1_pairs)) → va_S A s.heap H locs → W p l e (headSpec wc_PE_read rm_PE_read).room s m args below meth c H locs 0 0 Q (F0 m 63 ls []))), ∀ (l3 l4 y_t_openers y_p1_closings : Nat) (H : Heap) (locs : List Loc) (ls : Array Slot), b_PE_read_16 ih z_t_openers z_p0 z_p1_closings z_p1_pairs l3 l4 y_t_openers y_p1_closings = some r → lv_has ls 6 [(0, .ref q_t), (1, .ref q_p0), (2, .ref q_p1), (3, .int (nI l3)), (4, .int (nI l4))] → va_P (dC, dI) vwCl ((w_PE K q_t q_t_openers f_t_openers y_t_openers) ++ (wArr K 20 q_p0 f_p0 z_p0) ++ (w_WD K q_p1 q_p1_bits q_p1_closings f_p1_bits f_p1_closings z_p1_bits y_p1_closings z_p1_pairs)) H → va_D A ((w_PE K q_t q_t_openers f_t_openers y_t_openers) ++ (wArr K 20 q_p0 f_p0 z_p0) ++ (w_WD K q_p1 q_p1_bits q_p1_closings f_p1_bits f_p1_closings z_p1_bits y_p1_closings z_p1_pairs)) → va_S A s.heap H locs → W p l e (headSpec wc_PE_read rm_PE_read).room s m args below meth c H locs 0 0 Q (F0 m 16 ls []) := by
    intro ih IH l3 l4 y_t_openers y_p1_closings H locs ls hf hl hP hD hS
    unfold b_PE_read_16 at hf
    refine lv_iload hx hb dPE_read_16 (lv_at hl 4 rfl) ?_
    refine lv_iload_n hx hb dPE_read_18 rfl (lv_at hl 3 rfl) ?_
    refine lx_icmp_gt (tgt := 57) hx hb dPE_read_19 (by decide) hf (fun hf => ?_) (fun hf => ?_)
    · refine lv_iconst (v := nI 0) hx hb dPE_read_57 (by decide +kernel) ?_
      refine lv_istore hx hb dPE_read_58 hl (by decide) rfl (fun ls hl => ?_)
      refine lv_iconst (v := nI 1) hx hb dPE_read_60 (by decide +kernel) ?_
      refine lv_istore hx hb dPE_read_61 hl (by decide) rfl (fun ls hl => ?_)
      exact IH.2 l3 0 1 y_t_openers y_p1_closings _ _ _ hf (lv_sub hl [2, 4, 5, 1, 0] rfl) hP hD hS
    · refine lv_aload_n hx hb dPE_read_22 rfl (lv_at hl 1 rfl) ?_
      refine lv_iload hx hb dPE_read_23 (lv_at hl 4 rfl) ?_
      refine lv_iconst (v := nI 1) hx hb dPE_read_25 (by decide +kernel) ?_
      refine lx_isub hx hb dPE_read_26 ?_
      refine lx_iald hx hb hK hP 2 0 rfl rfl (by decide) dPE_read_27 hf (fun v3 _ hf => ?_)
      refine lv_istore hx hb dPE_read_28 hl (by decide) rfl (fun ls hl => ?_)
      refine lv_iload hx hb dPE_read_30 (lv_at hl 0 rfl) ?_
      refine lv_iconst (v := nI 1) hx hb dPE_read_32 (by decide +kernel) ?_
      refine lx_icmp_lt (tgt := 51) hx hb dPE_read_33 (by decide) hf (fun hf => ?_) (fun hf => ?_)
      · exact hj_51 _ IH l3 l4 y_t_openers y_p1_closings _ _ _ hf (lv_sub hl [1, 2, 3, 4, 5] rfl) hP hD hS
      · refine lv_iload hx hb dPE_read_36 (lv_at hl 0 rfl) ?_
        refine lv_iload_n hx hb dPE_read_38 rfl (lv_at hl 4 rfl) ?_
        refine lx_icmp_gt (tgt := 51) hx hb dPE_read_39 (by decide) hf (fun hf => ?_) (fun hf => ?_)
        · exact hj_51 _ IH l3 l4 y_t_openers y_p1_closings _ _ _ hf (lv_sub hl [1, 2, 3, 4, 5] rfl) hP hD hS
        · refine lv_aload_n hx hb dPE_read_42 rfl (lv_at hl 1 rfl) ?_
          refine va_get (D := (dC, dI)) (ci := 5) (v := .ref q_t_openers) (C := RPE) (T := TPE) (N := 1) hx hb hws uwPE hown hK hP 0 rfl rfl 0 (by decide) (hws _ kf_PE_9) (fun _ h9 => h9) rfl dPE_read_43 ?_
          refine lv_iload hx hb dPE_read_46 (lv_at hl 0 rfl) ?_
          refine lv_iload hx hb dPE_read_48 (lv_at hl 5 rfl) ?_
          refine lx_iast hx hb hK hP hD hS 1 0 rfl rfl (by decide) dPE_read_50 hf (fun hf H locs hP hD hS => ?_)
          have hP : va_P (dC, dI) vwCl ((w_PE K q_t q_t_openers f_t_openers (aw y_t_openers v3 l4)) ++ (wArr K 20 q_p0 f_p0 z_p0) ++ (w_WD K q_p1 q_p1_bits q_p1_closings f_p1_bits f_p1_closings z_p1_bits y_p1_closings z_p1_pairs)) H := hP
          have hD : va_D A ((w_PE K q_t q_t_openers f_t_openers (aw y_t_openers v3 l4)) ++ (wArr K 20 q_p0 f_p0 z_p0) ++ (w_WD K q_p1 q_p1_bits q_p1_closings f_p1_bits f_p1_closings z_p1_bits y_p1_closings z_p1_pairs)) := hD
          have hf := fz_s hf
          exact hj_51 _ IH l3 l4 (aw y_t_openers v3 l4) y_p1_closings _ _ _ hf (lv_sub hl [1, 2, 3, 4, 5] rfl) hP hD hS
  have hb_63 : ∀ (ih : Nat → Nat → Nat → Nat → Nat → Nat → Option (Nat × Nat)) (IH : (∀ (l3 l4 y_t_openers y_p1_closings : Nat) (H : Heap) (locs : List Loc) (ls : Array Slot), ih 0 l3 l4 y_t_openers y_p1_closings 0 = some r → lv_has ls 6 [(0, .ref q_t), (1, .ref q_p0), (2, .ref q_p1), (3, .int (nI l3)), (4, .int (nI l4))] → va_P (dC, dI) vwCl ((w_PE K q_t q_t_openers f_t_openers y_t_openers) ++ (wArr K 20 q_p0 f_p0 z_p0) ++ (w_WD K q_p1 q_p1_bits q_p1_closings f_p1_bits f_p1_closings z_p1_bits y_p1_closings z_p1_pairs)) H → va_D A ((w_PE K q_t q_t_openers f_t_openers y_t_openers) ++ (wArr K 20 q_p0 f_p0 z_p0) ++ (w_WD K q_p1 q_p1_bits q_p1_closings f_p1_bits f_p1_closings z_p1_bits y_p1_closings z_p1_pairs)) → va_S A s.heap H locs → W p l e (headSpec wc_PE_read rm_PE_read).room s m args below meth c H locs 0 0 Q (F0 m 16 ls [])) ∧ (∀ (l3 l4 l5 y_t_openers y_p1_closings : Nat) (H : Heap) (locs : List Loc) (ls : Array Slot), ih 1 l3 l4 l5 y_t_openers y_p1_closings = some r → lv_has ls 6 [(0, .ref q_t), (2, .ref q_p1), (3, .int (nI l3)), (4, .int (nI l4)), (5, .int (nI l5))] → va_P (dC, dI) vwCl ((w_PE K q_t q_t_openers f_t_openers y_t_openers) ++ (wArr K 20 q_p0 f_p0 z_p0) ++ (w_WD K q_p1 q_p1_bits q_p1_closings f_p1_bits f_p1_closings z_p1_bits y_p1_closings z_p1_pairs)) H → va_D A ((w_PE K q_t q_t_openers f_t_openers y_t_openers) ++ (wArr K 20 q_p0 f_p0 z_p0) ++ (w_WD K q_p1 q_p1_bits q_p1_closings f_p1_bits f_p1_closings z_p1_bits y_p1_closings z_p1_pairs)) → va_S A s.heap H locs → W p l e (headSpec wc_PE_read rm_PE_read).room s m args below meth c H locs 0 0 Q (F0 m 63 ls []))), ∀ (l3 l4 l5 y_t_openers y_p1_closings : Nat) (H : Heap) (locs : List Loc) (ls : Array Slot), b_PE_read_63 ih z_t_openers z_p0 z_p1_closings z_p1_pairs l3 l4 l5 y_t_openers y_p1_closings = some r → lv_has ls 6 [(0, .ref q_t), (2, .ref q_p1), (3, .int (nI l3)), (4, .int (nI l4)), (5, .int (nI l5))] → va_P (dC, dI) vwCl ((w_PE K q_t q_t_openers f_t_openers y_t_openers) ++ (wArr K 20 q_p0 f_p0 z_p0) ++ (w_WD K q_p1 q_p1_bits q_p1_closings f_p1_bits f_p1_closings z_p1_bits y_p1_closings z_p1_pairs)) H → va_D A ((w_PE K q_t q_t_openers f_t_openers y_t_openers) ++ (wArr K 20 q_p0 f_p0 z_p0) ++ (w_WD K q_p1 q_p1_bits q_p1_closings f_p1_bits f_p1_closings z_p1_bits y_p1_closings z_p1_pairs)) → va_S A s.heap H locs → W p l e (headSpec wc_PE_read rm_PE_read).room s m args below meth c H locs 0 0 Q (F0 m 63 ls []) := by
    intro ih IH l3 l4 l5 y_t_openers y_p1_closings H locs ls hf hl hP hD hS
    unfold b_PE_read_63 at hf
    refine lv_iload hx hb dPE_read_63 (lv_at hl 4 rfl) ?_
    refine lv_iload_n hx hb dPE_read_65 rfl (lv_at hl 2 rfl) ?_
    refine lx_icmp_gt (tgt := 95) hx hb dPE_read_66 (by decide) hf (fun hf => ?_) (fun hf => ?_)
    · obtain rfl := Option.some.inj hf
      rw [← hQ]
      exact W.vret hx hb hr (fun t ht hW => ⟨⟨rfl, by rw [ht]; exact hP⟩, hS.F ht⟩) hS.2.2 dPE_read_95
    · refine lv_iload hx hb dPE_read_69 (lv_at hl 3 rfl) ?_
      refine lv_aload_n hx hb dPE_read_71 rfl (lv_at hl 0 rfl) ?_
      refine va_get (D := (dC, dI)) (ci := 5) (v := .ref q_t_openers) (C := RPE) (T := TPE) (N := 1) hx hb hws uwPE hown hK hP 0 rfl rfl 0 (by decide) (hws _ kf_PE_9) (fun _ h9 => h9) rfl dPE_read_72 ?_
      refine lv_iload hx hb dPE_read_75 (lv_at hl 4 rfl) ?_
      refine lx_iald hx hb hK hP 1 0 rfl rfl (by decide) dPE_read_77 hf (fun v5 _ hf => ?_)
      refine lx_mmax hx hb (hml.trans hl.1.symm) hown (hws _ km_PE_41) (hws _ ks_MA_max) (hws _ kz_MA) (hws _ kc_MA_max) (Nat.le_of_ble_eq_true rfl) (Nat.le_of_ble_eq_true rfl) (Nat.le_of_ble_eq_true rfl) (Nat.le_of_ble_eq_true rfl) dPE_read_78 ?_
      refine lv_istore hx hb dPE_read_81 hl (by decide) rfl (fun ls hl => ?_)
      refine lv_aload_n hx hb dPE_read_83 rfl (lv_at hl 2 rfl) ?_
      refine lv_iload hx hb dPE_read_84 (lv_at hl 0 rfl) ?_
      obtain ⟨q6, hq, hf⟩ := bd_s hf
      refine ct_callv (ws' := (w_PE K q_t q_t_openers f_t_openers y_t_openers) ++ (wArr K 20 q_p0 f_p0 z_p0) ++ (w_WD K q_p1 q_p1_bits q_p1_closings f_p1_bits f_p1_closings z_p1_bits q6 z_p1_pairs)) (va_runV (As := [.int (nI (iMx l4 v5))]) (rest := []) ⟨hx, hb, hml, hown, hws⟩ (ct_WD_closeAfter l dC dI K q_p1 q_p1_bits q_p1_closings f_p1_bits f_p1_closings (iMx l4 v5) z_p1_bits y_p1_closings z_p1_pairs q6 hq _) ⟨cb_WD_closeAfter hws rm_WD_closeAfter (hws _ km_PE_47) ⟨Nat.le_of_ble_eq_true rfl, Nat.le_of_ble_eq_true rfl⟩, hws _ ki_WD_closeAfter, hws _ ke_WD_WD_closeAfter_WD_closeAfter⟩ ⟨ct_blind _ _ _, va_recv (ci := 8) (q0 := 3) (q := (RWD, TWD, 3)) hK hP rfl rfl, ct_pre (cs := (w_WD K q_p1 q_p1_bits q_p1_closings f_p1_bits f_p1_closings z_p1_bits y_p1_closings z_p1_pairs)) hP hD hK [3, 4, 5] (by decide) rfl _⟩ rfl rfl hl.1 rfl (lv_room (Nat.le_of_ble_eq_true rfl)) dPE_read_86 ⟨Nat.le_of_ble_eq_true rfl, Nat.le_of_ble_eq_true rfl⟩) hP hD hS hA [3, 4, 5] rfl rfl rfl rfl (fun H locs hP hD hS => ?_)
      have hP : va_P (dC, dI) vwCl ((w_PE K q_t q_t_openers f_t_openers y_t_openers) ++ (wArr K 20 q_p0 f_p0 z_p0) ++ (w_WD K q_p1 q_p1_bits q_p1_closings f_p1_bits f_p1_closings z_p1_bits q6 z_p1_pairs)) H := hP
      have hD : va_D A ((w_PE K q_t q_t_openers f_t_openers y_t_openers) ++ (wArr K 20 q_p0 f_p0 z_p0) ++ (w_WD K q_p1 q_p1_bits q_p1_closings f_p1_bits f_p1_closings z_p1_bits q6 z_p1_pairs)) := hD
      refine lx_iinc (k := 4) (d := 1) hx hb dPE_read_89 hl rfl (by decide +kernel) (by decide) rfl (fun ls hl => ?_)
      refine lv_goto (tgt := 63) hx hb dPE_read_92 (by decide) ?_
      have hf := fz_s hf
      have hf := fz_s hf
      exact IH.2 l3 (iMx l4 v5) (iA l5 1) y_t_openers q6 _ _ _ hf (lv_sub hl [2, 3, 4, 1, 0] rfl) hP hD hS
  have key : ∀ k : Nat, (∀ (l3 l4 y_t_openers y_p1_closings : Nat) (H : Heap) (locs : List Loc) (ls : Array Slot), fr_PE_read z_t_openers z_p0 z_p1_closings z_p1_pairs k 0 l3 l4 y_t_openers y_p1_closings 0 = some r → lv_has ls 6 [(0, .ref q_t), (1, .ref q_p0), (2, .ref q_p1), (3, .int (nI l3)), (4, .int (nI l4))] → va_P (dC, dI) vwCl ((w_PE K q_t q_t_openers f_t_openers y_t_openers) ++ (wArr K 20 q_p0 f_p0 z_p0) ++ (w_WD K q_p1 q_p1_bits q_p1_closings f_p1_bits f_p1_closings z_p1_bits y_p1_closings z_p1_pairs)) H → va_D A ((w_PE K q_t q_t_openers f_t_openers y_t_openers) ++ (wArr K 20 q_p0 f_p0 z_p0) ++ (w_WD K q_p1 q_p1_bits q_p1_closings f_p1_bits f_p1_closings z_p1_bits y_p1_closings z_p1_pairs)) → va_S A s.heap H locs → W p l e (headSpec wc_PE_read rm_PE_read).room s m args below meth c H locs 0 0 Q (F0 m 16 ls [])) ∧ (∀ (l3 l4 l5 y_t_openers y_p1_closings : Nat) (H : Heap) (locs : List Loc) (ls : Array Slot), fr_PE_read z_t_openers z_p0 z_p1_closings z_p1_pairs k 1 l3 l4 l5 y_t_openers y_p1_closings = some r → lv_has ls 6 [(0, .ref q_t), (2, .ref q_p1), (3, .int (nI l3)), (4, .int (nI l4)), (5, .int (nI l5))] → va_P (dC, dI) vwCl ((w_PE K q_t q_t_openers f_t_openers y_t_openers) ++ (wArr K 20 q_p0 f_p0 z_p0) ++ (w_WD K q_p1 q_p1_bits q_p1_closings f_p1_bits f_p1_closings z_p1_bits y_p1_closings z_p1_pairs)) H → va_D A ((w_PE K q_t q_t_openers f_t_openers y_t_openers) ++ (wArr K 20 q_p0 f_p0 z_p0) ++ (w_WD K q_p1 q_p1_bits q_p1_closings f_p1_bits f_p1_closings z_p1_bits y_p1_closings z_p1_pairs)) → va_S A s.heap H locs → W p l e (headSpec wc_PE_read rm_PE_read).room s m args below meth c H locs 0 0 Q (F0 m 63 ls [])) := by
    intro k
    induction k with
    | zero => exact ⟨fun l3 l4 y_t_openers y_p1_closings H locs ls hf _ _ _ _ => no_s (α := Nat × Nat) (r := r) hf, fun l3 l4 l5 y_t_openers y_p1_closings H locs ls hf _ _ _ _ => no_s (α := Nat × Nat) (r := r) hf⟩
    | succ k IH => exact ⟨fun l3 l4 y_t_openers y_p1_closings H locs ls hf => hb_16 (fr_PE_read z_t_openers z_p0 z_p1_closings z_p1_pairs k) IH l3 l4 y_t_openers y_p1_closings H locs ls ((frs_PE_read_16 z_t_openers z_p0 z_p1_closings z_p1_pairs k l3 l4 y_t_openers y_p1_closings).symm.trans hf), fun l3 l4 l5 y_t_openers y_p1_closings H locs ls hf => hb_63 (fr_PE_read z_t_openers z_p0 z_p1_closings z_p1_pairs k) IH l3 l4 l5 y_t_openers y_p1_closings H locs ls ((frs_PE_read_63 z_t_openers z_p0 z_p1_closings z_p1_pairs k l3 l4 l5 y_t_openers y_p1_closings).symm.trans hf)⟩
  have IH := key 1000000
  have hf : e_PE_read (fr_PE_read z_t_openers z_p0 z_p1_closings z_p1_pairs 1000000) z_t_openers z_p0 z_p1_closings z_p1_pairs = some r := hf
  unfold e_PE_read at hf
  generalize fr_PE_read z_t_openers z_p0 z_p1_closings z_p1_pairs 1000000 = ih at hf IH
  refine lv_aload_n hx hb dPE_read_0 rfl (lv_at hl 2 rfl) ?_
  obtain ⟨q1, hq, hf⟩ := bd_s hf
  refine ct_callr (ws' := (w_PE K q_t q_t_openers f_t_openers z_t_openers) ++ (wArr K 20 q_p0 f_p0 z_p0) ++ (w_WD K q_p1 q_p1_bits q_p1_closings f_p1_bits f_p1_closings z_p1_bits z_p1_closings z_p1_pairs)) (va_runV (As := []) (rest := []) ⟨hx, hb, hml, hown, hws⟩ (ct_WD_pairs l dC dI K q_p1 q_p1_bits q_p1_closings f_p1_bits f_p1_closings z_p1_bits z_p1_closings z_p1_pairs q1 hq _) ⟨cb_WD_pairs hws rm_WD_pairs (hws _ km_PE_32) ⟨Nat.le_of_ble_eq_true rfl, Nat.le_of_ble_eq_true rfl⟩, hws _ ki_WD_pairs, hws _ ke_WD_WD_pairs_WD_pairs⟩ ⟨ct_blind _ _ _, va_recv (ci := 8) (q0 := 3) (q := (RWD, TWD, 3)) hK hP rfl rfl, ct_pre (cs := (w_WD K q_p1 q_p1_bits q_p1_closings f_p1_bits f_p1_closings z_p1_bits z_p1_closings z_p1_pairs)) hP hD hK [3, 4, 5] (by decide) rfl _⟩ rfl rfl hl.1 rfl (lv_room (Nat.le_of_ble_eq_true rfl)) dPE_read_1 ⟨Nat.le_of_ble_eq_true rfl, Nat.le_of_ble_eq_true rfl⟩) hP hD hS hA [3, 4, 5] rfl rfl rfl rfl (fun H locs hP hD hS => ?_)
  refine lv_istore_n hx hb dPE_read_4 rfl hl (by decide) rfl (fun ls hl => ?_)
  refine lv_aload_n hx hb dPE_read_5 rfl (lv_at hl 1 rfl) ?_
  refine va_get (D := (dC, dI)) (ci := 5) (v := .ref q_t_openers) (C := RPE) (T := TPE) (N := 1) hx hb hws uwPE hown hK hP 0 rfl rfl 0 (by decide) (hws _ kf_PE_9) (fun _ h9 => h9) rfl dPE_read_6 ?_
  refine lv_iconst (v := nI 0) hx hb dPE_read_9 (by decide +kernel) ?_
  obtain ⟨q2, hq, hf⟩ := bd_s hf
  refine ct_callv (ws' := (w_PE K q_t q_t_openers f_t_openers q2) ++ (wArr K 20 q_p0 f_p0 z_p0) ++ (w_WD K q_p1 q_p1_bits q_p1_closings f_p1_bits f_p1_closings z_p1_bits z_p1_closings z_p1_pairs)) (va_runS (As := [.ref q_t_openers, .int (nI 0)]) (rest := []) ⟨hx, hb, hml, hown, hws⟩ (ct_AR_fill10 l dC dI K q_t_openers f_t_openers 0 z_t_openers q2 hq _) ⟨cb_AR_fill hws rm_AR_fill10 (hws _ km_PE_35) ⟨Nat.le_of_ble_eq_true rfl, Nat.le_of_ble_eq_true rfl⟩, hws _ ks_AR_fill⟩ ⟨ct_blind _ _ _, ct_pre (cs := (wArr K 10 q_t_openers f_t_openers z_t_openers)) hP hD hK [1] (by decide) rfl _⟩ rfl rfl hl.1 rfl (lv_room (Nat.le_of_ble_eq_true rfl)) dPE_read_10 ⟨Nat.le_of_ble_eq_true rfl, Nat.le_of_ble_eq_true rfl⟩) hP hD hS hA [1] rfl rfl rfl rfl (fun H locs hP hD hS => ?_)
  have hP : va_P (dC, dI) vwCl ((w_PE K q_t q_t_openers f_t_openers q2) ++ (wArr K 20 q_p0 f_p0 z_p0) ++ (w_WD K q_p1 q_p1_bits q_p1_closings f_p1_bits f_p1_closings z_p1_bits z_p1_closings z_p1_pairs)) H := hP
  have hD : va_D A ((w_PE K q_t q_t_openers f_t_openers q2) ++ (wArr K 20 q_p0 f_p0 z_p0) ++ (w_WD K q_p1 q_p1_bits q_p1_closings f_p1_bits f_p1_closings z_p1_bits z_p1_closings z_p1_pairs)) := hD
  refine lv_iconst (v := nI 1) hx hb dPE_read_13 (by decide +kernel) ?_
  refine lv_istore hx hb dPE_read_14 hl (by decide) rfl (fun ls hl => ?_)
  exact IH.1 q1 1 q2 z_p1_closings _ _ _ hf (lv_sub hl [2, 3, 4, 1, 0] rfl) hP hD hS
noncomputable def b_PA_write_5 (ih : Nat → Nat → Nat → Nat → Nat → Nat → Nat → Option (Nat × Nat)) (z_t_pile : Nat) (z_p0_closings : Nat) (z_p0_pairs : Nat) (z_p1 : Nat) (l3 : Nat) (l4 : Nat) (y_t_pile : Nat) (y_p1 : Nat) : Option (Nat × Nat) := (Option.bind (f_WD_pairs z_p0_pairs) (fun q1 => (bif iLt q1 l4 then some (y_t_pile, y_p1) else (bif Nat.blt l3 9 then (Option.bind (f_WD_closingsAfter l4 z_p0_closings z_p0_pairs) (fun q2 => (fz (iA l3 1) (fun u3 => fz (iS (iA l3 1) q2) (fun u4 => fz (iS (iA l3 1) q2) (fun u5 => fz (aw y_t_pile l3 l4) (fun u6 => ih 1 u3 l4 u4 u5 u6 y_p1))))))) else none))))
noncomputable def b_PA_write_39 (ih : Nat → Nat → Nat → Nat → Nat → Nat → Nat → Option (Nat × Nat)) (z_t_pile : Nat) (z_p0_closings : Nat) (z_p0_pairs : Nat) (z_p1 : Nat) (l3 : Nat) (l4 : Nat) (l5 : Nat) (l6 : Nat) (y_t_pile : Nat) (y_p1 : Nat) : Option (Nat × Nat) := (bif iLt l6 l3 then (rd y_t_pile 9 l6 (fun v8 => (rd y_t_pile 9 l5 (fun v9 => (bif Nat.blt (iS v8 1) 20 then (fz (iA l6 1) (fun u10 => fz (aw y_p1 (iS v8 1) v9) (fun u11 => ih 1 l3 l4 l5 u10 y_t_pile u11))) else none))))) else (fz (iA l4 1) (fun u7 => ih 0 l5 u7 y_t_pile y_p1 0 0)))
noncomputable def fr_PA_write (z_t_pile : Nat) (z_p0_closings : Nat) (z_p0_pairs : Nat) (z_p1 : Nat) (k : Nat) : Nat → Nat → Nat → Nat → Nat → Nat → Nat → Option (Nat × Nat) := Nat.rec (motive := fun _ => Nat → Nat → Nat → Nat → Nat → Nat → Nat → Option (Nat × Nat)) (fun _ _ _ _ _ _ _ => none) (fun _ ih hh a0 a1 a2 a3 a4 a5 => (Nat.rec (motive := fun _ => Option (Nat × Nat)) (b_PA_write_5 ih z_t_pile z_p0_closings z_p0_pairs z_p1 a0 a1 a2 a3) (fun h0 _ => (Nat.rec (motive := fun _ => Option (Nat × Nat)) (b_PA_write_39 ih z_t_pile z_p0_closings z_p0_pairs z_p1 a0 a1 a2 a3 a4 a5) (fun h1 _ => none) h0)) hh)) k
theorem frs_PA_write_5 (z_t_pile : Nat) (z_p0_closings : Nat) (z_p0_pairs : Nat) (z_p1 : Nat) (k : Nat) (l3 : Nat) (l4 : Nat) (y_t_pile : Nat) (y_p1 : Nat) : fr_PA_write z_t_pile z_p0_closings z_p0_pairs z_p1 (k + 1) 0 l3 l4 y_t_pile y_p1 0 0 = b_PA_write_5 (fr_PA_write z_t_pile z_p0_closings z_p0_pairs z_p1 k) z_t_pile z_p0_closings z_p0_pairs z_p1 l3 l4 y_t_pile y_p1 := rfl
theorem frs_PA_write_39 (z_t_pile : Nat) (z_p0_closings : Nat) (z_p0_pairs : Nat) (z_p1 : Nat) (k : Nat) (l3 : Nat) (l4 : Nat) (l5 : Nat) (l6 : Nat) (y_t_pile : Nat) (y_p1 : Nat) : fr_PA_write z_t_pile z_p0_closings z_p0_pairs z_p1 (k + 1) 1 l3 l4 l5 l6 y_t_pile y_p1 = b_PA_write_39 (fr_PA_write z_t_pile z_p0_closings z_p0_pairs z_p1 k) z_t_pile z_p0_closings z_p0_pairs z_p1 l3 l4 l5 l6 y_t_pile y_p1 := rfl
noncomputable def e_PA_write (ih : Nat → Nat → Nat → Nat → Nat → Nat → Nat → Option (Nat × Nat)) (z_t_pile : Nat) (z_p0_closings : Nat) (z_p0_pairs : Nat) (z_p1 : Nat) : Option (Nat × Nat) := (ih 0 0 1 z_t_pile z_p1 0 0)
noncomputable def f_PA_write (z_t_pile : Nat) (z_p0_closings : Nat) (z_p0_pairs : Nat) (z_p1 : Nat) : Option (Nat × Nat) := e_PA_write (fr_PA_write z_t_pile z_p0_closings z_p0_pairs z_p1 1000000) z_t_pile z_p0_closings z_p0_pairs z_p1
abbrev rm_PA_write : Room := { frames := 1, cells := 0, slots := 0, locals := 21 }
set_option maxHeartbeats 4000000 in
set_option maxRecDepth 100000 in
theorem ct_PA_write (l : Launch) (dC : Nat → ClassId) (dI : Nat → Nat → Nat) (K : Nat → ClassId) (q_t : Nat) (q_t_pile : Nat) (q_t_leasts : Nat) (q_t_greatests : Nat) (q_t_former : Nat) (q_p0 : Nat) (q_p0_bits : Nat) (q_p0_closings : Nat) (q_p1 : Nat) (f_t_pile : Nat → Int32) (f_t_leasts : Nat → Int32) (f_t_greatests : Nat → Int32) (f_t_former : Nat → Int32) (f_p0_bits : Nat → Int32) (f_p0_closings : Nat → Int32) (f_p1 : Nat → Int32) (z_t_pile : Nat) (z_t_leasts : Nat) (z_t_greatests : Nat) (z_t_former : Nat) (z_p0_bits : Nat) (z_p0_closings : Nat) (z_p0_pairs : Nat) (z_p1 : Nat) (r : Nat × Nat) (hf : f_PA_write z_t_pile z_p0_closings z_p0_pairs z_p1 = some r) : Ct l (dC, dI) vwCl yPA_write wc_PA_write rm_PA_write (tyK K) [.ref q_t, .ref q_p0, .ref q_p1] ((w_PA K q_t q_t_pile q_t_leasts q_t_greatests q_t_former f_t_pile f_t_leasts f_t_greatests f_t_former z_t_pile z_t_leasts z_t_greatests z_t_former) ++ (w_WD K q_p0 q_p0_bits q_p0_closings f_p0_bits f_p0_closings z_p0_bits z_p0_closings z_p0_pairs) ++ (wArr K 20 q_p1 f_p1 z_p1)) ((w_PA K q_t q_t_pile q_t_leasts q_t_greatests q_t_former f_t_pile f_t_leasts f_t_greatests f_t_former r.1 z_t_leasts z_t_greatests z_t_former) ++ (w_WD K q_p0 q_p0_bits q_p0_closings f_p0_bits f_p0_closings z_p0_bits z_p0_closings z_p0_pairs) ++ (wArr K 20 q_p1 f_p1 r.2)) none := by
  intro sz
  refine Met.ofW (cc := cPA_write) (maxL := 7) (ret := none) (by decide) rfl ?_
  intro p e s m args below meth c s₁ B hml hv
  obtain ⟨rfl, hsz, hP, hK, hD0⟩ := hv
  have hx := B.exec
  have hb := B.bytes
  have hr := B.returns
  have hts := atoms_spec (ws := wc_PA_write) B.pre
  have hws : ∀ w ∈ WS, w.before _ s = true := fun w h => hts w (List.mem_cons_of_mem _ h)
  have hown : s.vm.findClass RPA = some m.cls := findClass_of_methodNamed B.named
  have hlocks := B.notSynchronized
  subst hsz
  have hD := hD0.self (sz := s.heap.size)
  generalize hAe : va_A ((w_PA K q_t q_t_pile q_t_leasts q_t_greatests q_t_former f_t_pile f_t_leasts f_t_greatests f_t_former z_t_pile z_t_leasts z_t_greatests z_t_former) ++ (w_WD K q_p0 q_p0_bits q_p0_closings f_p0_bits f_p0_closings z_p0_bits z_p0_closings z_p0_pairs) ++ (wArr K 20 q_p1 f_p1 z_p1)) s.heap.size = A at hD ⊢
  have hA : ∀ q : Nat, s.heap.size ≤ q → A q := fun q h => by rw [← hAe]; exact Or.inr h
  have hS : va_S A s.heap s.heap [] := va_S.rf
  have hl := lv_entry ([.ref q_t, .ref q_p0, .ref q_p1]) (n := 7) (Nat.le_of_ble_eq_true rfl)
  rw [lg_entry_eq]
  generalize (lg_sl ([.ref q_t, .ref q_p0, .ref q_p1]) ++ List.replicate (7 - (lg_sl ([.ref q_t, .ref q_p0, .ref q_p1])).length) Slot.unset).toArray = ls at hl ⊢
  have hl : lv_has ls 7 [(0, .ref q_t), (1, .ref q_p0), (2, .ref q_p1)] := hl
  generalize ([.ref q_t, .ref q_p0, .ref q_p1] : List Value).toArray = args at hts hws ⊢
  generalize hQ : MQ below _ _ _ _ _ _ = Q
  have hb_5 : ∀ (ih : Nat → Nat → Nat → Nat → Nat → Nat → Nat → Option (Nat × Nat)) (IH : (∀ (l3 l4 y_t_pile y_p1 : Nat) (H : Heap) (locs : List Loc) (ls : Array Slot), ih 0 l3 l4 y_t_pile y_p1 0 0 = some r → lv_has ls 7 [(0, .ref q_t), (1, .ref q_p0), (2, .ref q_p1), (3, .int (nI l3)), (4, .int (nI l4))] → va_P (dC, dI) vwCl ((w_PA K q_t q_t_pile q_t_leasts q_t_greatests q_t_former f_t_pile f_t_leasts f_t_greatests f_t_former y_t_pile z_t_leasts z_t_greatests z_t_former) ++ (w_WD K q_p0 q_p0_bits q_p0_closings f_p0_bits f_p0_closings z_p0_bits z_p0_closings z_p0_pairs) ++ (wArr K 20 q_p1 f_p1 y_p1)) H → va_D A ((w_PA K q_t q_t_pile q_t_leasts q_t_greatests q_t_former f_t_pile f_t_leasts f_t_greatests f_t_former y_t_pile z_t_leasts z_t_greatests z_t_former) ++ (w_WD K q_p0 q_p0_bits q_p0_closings f_p0_bits f_p0_closings z_p0_bits z_p0_closings z_p0_pairs) ++ (wArr K 20 q_p1 f_p1 y_p1)) → va_S A s.heap H locs → W p l e (headSpec wc_PA_write rm_PA_write).room s m args below meth c H locs 0 0 Q (F0 m 5 ls [])) ∧ (∀ (l3 l4 l5 l6 y_t_pile y_p1 : Nat) (H : Heap) (locs : List Loc) (ls : Array Slot), ih 1 l3 l4 l5 l6 y_t_pile y_p1 = some r → lv_has ls 7 [(0, .ref q_t), (1, .ref q_p0), (2, .ref q_p1), (3, .int (nI l3)), (4, .int (nI l4)), (5, .int (nI l5)), (6, .int (nI l6))] → va_P (dC, dI) vwCl ((w_PA K q_t q_t_pile q_t_leasts q_t_greatests q_t_former f_t_pile f_t_leasts f_t_greatests f_t_former y_t_pile z_t_leasts z_t_greatests z_t_former) ++ (w_WD K q_p0 q_p0_bits q_p0_closings f_p0_bits f_p0_closings z_p0_bits z_p0_closings z_p0_pairs) ++ (wArr K 20 q_p1 f_p1 y_p1)) H → va_D A ((w_PA K q_t q_t_pile q_t_leasts q_t_greatests q_t_former f_t_pile f_t_leasts f_t_greatests f_t_former y_t_pile z_t_leasts z_t_greatests z_t_former) ++ (w_WD K q_p0 q_p0_bits q_p0_closings f_p0_bits f_p0_closings z_p0_bits z_p0_closings z_p0_pairs) ++ (wArr K 20 q_p1 f_p1 y_p1)) → va_S A s.heap H locs → W p l e (headSpec wc_PA_write rm_PA_write).room s m args below meth c H locs 0 0 Q (F0 m 39 ls []))), ∀ (l3 l4 y_t_pile y_p1 : Nat) (H : Heap) (locs : List Loc) (ls : Array Slot), b_PA_write_5 ih z_t_pile z_p0_closings z_p0_pairs z_p1 l3 l4 y_t_pile y_p1 = some r → lv_has ls 7 [(0, .ref q_t), (1, .ref q_p0), (2, .ref q_p1), (3, .int (nI l3)), (4, .int (nI l4))] → va_P (dC, dI) vwCl ((w_PA K q_t q_t_pile q_t_leasts q_t_greatests q_t_former f_t_pile f_t_leasts f_t_greatests f_t_former y_t_pile z_t_leasts z_t_greatests z_t_former) ++ (w_WD K q_p0 q_p0_bits q_p0_closings f_p0_bits f_p0_closings z_p0_bits z_p0_closings z_p0_pairs) ++ (wArr K 20 q_p1 f_p1 y_p1)) H → va_D A ((w_PA K q_t q_t_pile q_t_leasts q_t_greatests q_t_former f_t_pile f_t_leasts f_t_greatests f_t_former y_t_pile z_t_leasts z_t_greatests z_t_former) ++ (w_WD K q_p0 q_p0_bits q_p0_closings f_p0_bits f_p0_closings z_p0_bits z_p0_closings z_p0_pairs) ++ (wArr K 20 q_p1 f_p1 y_p1)) → va_S A s.heap H locs → W p l e (headSpec wc_PA_write rm_PA_write).room s m args below meth c H locs 0 0 Q (F0 m 5 ls []) := by
    intro ih IH l3 l4 y_t_pile y_p1 H locs ls hf hl hP hD hS
    unfold b_PA_write_5 at hf
    refine lv_iload hx hb dPA_write_5 (lv_at hl 4 rfl) ?_
    refine lv_aload_n hx hb dPA_write_7 rfl (lv_at hl 1 rfl) ?_
    obtain ⟨q1, hq, hf⟩ := bd_s hf
    refine ct_callr (ws' := (w_PA K q_t q_t_pile q_t_leasts q_t_greatests q_t_former f_t_pile f_t_leasts f_t_greatests f_t_former y_t_pile z_t_leasts z_t_greatests z_t_former) ++ (w_WD K q_p0 q_p0_bits q_p0_closings f_p0_bits f_p0_closings z_p0_bits z_p0_closings z_p0_pairs) ++ (wArr K 20 q_p1 f_p1 y_p1)) (va_runV (As := []) (rest := [.int (nI l4)]) ⟨hx, hb, hml, hown, hws⟩ (ct_WD_pairs l dC dI K q_p0 q_p0_bits q_p0_closings f_p0_bits f_p0_closings z_p0_bits z_p0_closings z_p0_pairs q1 hq _) ⟨cb_WD_pairs hws rm_WD_pairs (hws _ km_PA_24) ⟨Nat.le_of_ble_eq_true rfl, Nat.le_of_ble_eq_true rfl⟩, hws _ ki_WD_pairs, hws _ ke_WD_WD_pairs_WD_pairs⟩ ⟨ct_blind _ _ _, va_recv (ci := 8) (q0 := 5) (q := (RWD, TWD, 3)) hK hP rfl rfl, ct_pre (cs := (w_WD K q_p0 q_p0_bits q_p0_closings f_p0_bits f_p0_closings z_p0_bits z_p0_closings z_p0_pairs)) hP hD hK [5, 6, 7] (by decide) rfl _⟩ rfl rfl hl.1 rfl (lv_room (Nat.le_of_ble_eq_true rfl)) dPA_write_8 ⟨Nat.le_of_ble_eq_true rfl, Nat.le_of_ble_eq_true rfl⟩) hP hD hS hA [5, 6, 7] rfl rfl rfl rfl (fun H locs hP hD hS => ?_)
    refine lx_icmp_gt (tgt := 78) hx hb dPA_write_11 (by decide) hf (fun hf => ?_) (fun hf => ?_)
    · obtain rfl := Option.some.inj hf
      rw [← hQ]
      exact W.vret hx hb hr (fun t ht hW => ⟨⟨rfl, by rw [ht]; exact hP⟩, hS.F ht⟩) hS.2.2 dPA_write_78
    · refine lv_aload_n hx hb dPA_write_14 rfl (lv_at hl 0 rfl) ?_
      refine va_get (D := (dC, dI)) (ci := 4) (v := .ref q_t_pile) (C := RPA) (T := TPA) (N := 4) hx hb hws uwPA hown hK hP 0 rfl rfl 0 (by decide) (hws _ kf_PA_9) (fun _ h9 => h9) rfl dPA_write_15 ?_
      refine lv_iload_n hx hb dPA_write_18 rfl (lv_at hl 3 rfl) ?_
      refine lv_iload hx hb dPA_write_19 (lv_at hl 4 rfl) ?_
      refine lx_iast hx hb hK hP hD hS 1 0 rfl rfl (by decide) dPA_write_21 hf (fun hf H locs hP hD hS => ?_)
      have hP : va_P (dC, dI) vwCl ((w_PA K q_t q_t_pile q_t_leasts q_t_greatests q_t_former f_t_pile f_t_leasts f_t_greatests f_t_former (aw y_t_pile l3 l4) z_t_leasts z_t_greatests z_t_former) ++ (w_WD K q_p0 q_p0_bits q_p0_closings f_p0_bits f_p0_closings z_p0_bits z_p0_closings z_p0_pairs) ++ (wArr K 20 q_p1 f_p1 y_p1)) H := hP
      have hD : va_D A ((w_PA K q_t q_t_pile q_t_leasts q_t_greatests q_t_former f_t_pile f_t_leasts f_t_greatests f_t_former (aw y_t_pile l3 l4) z_t_leasts z_t_greatests z_t_former) ++ (w_WD K q_p0 q_p0_bits q_p0_closings f_p0_bits f_p0_closings z_p0_bits z_p0_closings z_p0_pairs) ++ (wArr K 20 q_p1 f_p1 y_p1)) := hD
      refine lx_iinc (k := 3) (d := 1) hx hb dPA_write_22 hl rfl (by decide +kernel) (by decide) rfl (fun ls hl => ?_)
      refine lv_iload_n hx hb dPA_write_25 rfl (lv_at hl 0 rfl) ?_
      refine lv_aload_n hx hb dPA_write_26 rfl (lv_at hl 2 rfl) ?_
      refine lv_iload hx hb dPA_write_27 (lv_at hl 4 rfl) ?_
      obtain ⟨q2, hq, hf⟩ := bd_s hf
      refine ct_callr (ws' := (w_PA K q_t q_t_pile q_t_leasts q_t_greatests q_t_former f_t_pile f_t_leasts f_t_greatests f_t_former (aw y_t_pile l3 l4) z_t_leasts z_t_greatests z_t_former) ++ (w_WD K q_p0 q_p0_bits q_p0_closings f_p0_bits f_p0_closings z_p0_bits z_p0_closings z_p0_pairs) ++ (wArr K 20 q_p1 f_p1 y_p1)) (va_runV (As := [.int (nI l4)]) (rest := [.int (nI (iA l3 1))]) ⟨hx, hb, hml, hown, hws⟩ (ct_WD_closingsAfter l dC dI K q_p0 q_p0_bits q_p0_closings f_p0_bits f_p0_closings l4 z_p0_bits z_p0_closings z_p0_pairs q2 hq _) ⟨cb_WD_closingsAfter hws rm_WD_closingsAfter (hws _ km_PA_30) ⟨Nat.le_of_ble_eq_true rfl, Nat.le_of_ble_eq_true rfl⟩, hws _ ki_WD_closingsAfter, hws _ ke_WD_WD_closingsAfter_WD_closingsAfter⟩ ⟨ct_blind _ _ _, va_recv (ci := 8) (q0 := 5) (q := (RWD, TWD, 3)) hK hP rfl rfl, ct_pre (cs := (w_WD K q_p0 q_p0_bits q_p0_closings f_p0_bits f_p0_closings z_p0_bits z_p0_closings z_p0_pairs)) hP hD hK [5, 6, 7] (by decide) rfl _⟩ rfl rfl hl.1 rfl (lv_room (Nat.le_of_ble_eq_true rfl)) dPA_write_29 ⟨Nat.le_of_ble_eq_true rfl, Nat.le_of_ble_eq_true rfl⟩) hP hD hS hA [5, 6, 7] rfl rfl rfl rfl (fun H locs hP hD hS => ?_)
      refine lx_isub hx hb dPA_write_32 ?_
      refine lv_istore hx hb dPA_write_33 hl (by decide) rfl (fun ls hl => ?_)
      refine lv_iload hx hb dPA_write_35 (lv_at hl 0 rfl) ?_
      refine lv_istore hx hb dPA_write_37 hl (by decide) rfl (fun ls hl => ?_)
      have hf := fz_s hf
      have hf := fz_s hf
      have hf := fz_s hf
      have hf := fz_s hf
      exact IH.2 (iA l3 1) l4 (iS (iA l3 1) q2) (iS (iA l3 1) q2) (aw y_t_pile l3 l4) y_p1 _ _ _ hf (lv_sub hl [3, 4, 5, 2, 6, 1, 0] rfl) hP hD hS
  have hb_39 : ∀ (ih : Nat → Nat → Nat → Nat → Nat → Nat → Nat → Option (Nat × Nat)) (IH : (∀ (l3 l4 y_t_pile y_p1 : Nat) (H : Heap) (locs : List Loc) (ls : Array Slot), ih 0 l3 l4 y_t_pile y_p1 0 0 = some r → lv_has ls 7 [(0, .ref q_t), (1, .ref q_p0), (2, .ref q_p1), (3, .int (nI l3)), (4, .int (nI l4))] → va_P (dC, dI) vwCl ((w_PA K q_t q_t_pile q_t_leasts q_t_greatests q_t_former f_t_pile f_t_leasts f_t_greatests f_t_former y_t_pile z_t_leasts z_t_greatests z_t_former) ++ (w_WD K q_p0 q_p0_bits q_p0_closings f_p0_bits f_p0_closings z_p0_bits z_p0_closings z_p0_pairs) ++ (wArr K 20 q_p1 f_p1 y_p1)) H → va_D A ((w_PA K q_t q_t_pile q_t_leasts q_t_greatests q_t_former f_t_pile f_t_leasts f_t_greatests f_t_former y_t_pile z_t_leasts z_t_greatests z_t_former) ++ (w_WD K q_p0 q_p0_bits q_p0_closings f_p0_bits f_p0_closings z_p0_bits z_p0_closings z_p0_pairs) ++ (wArr K 20 q_p1 f_p1 y_p1)) → va_S A s.heap H locs → W p l e (headSpec wc_PA_write rm_PA_write).room s m args below meth c H locs 0 0 Q (F0 m 5 ls [])) ∧ (∀ (l3 l4 l5 l6 y_t_pile y_p1 : Nat) (H : Heap) (locs : List Loc) (ls : Array Slot), ih 1 l3 l4 l5 l6 y_t_pile y_p1 = some r → lv_has ls 7 [(0, .ref q_t), (1, .ref q_p0), (2, .ref q_p1), (3, .int (nI l3)), (4, .int (nI l4)), (5, .int (nI l5)), (6, .int (nI l6))] → va_P (dC, dI) vwCl ((w_PA K q_t q_t_pile q_t_leasts q_t_greatests q_t_former f_t_pile f_t_leasts f_t_greatests f_t_former y_t_pile z_t_leasts z_t_greatests z_t_former) ++ (w_WD K q_p0 q_p0_bits q_p0_closings f_p0_bits f_p0_closings z_p0_bits z_p0_closings z_p0_pairs) ++ (wArr K 20 q_p1 f_p1 y_p1)) H → va_D A ((w_PA K q_t q_t_pile q_t_leasts q_t_greatests q_t_former f_t_pile f_t_leasts f_t_greatests f_t_former y_t_pile z_t_leasts z_t_greatests z_t_former) ++ (w_WD K q_p0 q_p0_bits q_p0_closings f_p0_bits f_p0_closings z_p0_bits z_p0_closings z_p0_pairs) ++ (wArr K 20 q_p1 f_p1 y_p1)) → va_S A s.heap H locs → W p l e (headSpec wc_PA_write rm_PA_write).room s m args below meth c H locs 0 0 Q (F0 m 39 ls []))), ∀ (l3 l4 l5 l6 y_t_pile y_p1 : Nat) (H : Heap) (locs : List Loc) (ls : Array Slot), b_PA_write_39 ih z_t_pile z_p0_closings z_p0_pairs z_p1 l3 l4 l5 l6 y_t_pile y_p1 = some r → lv_has ls 7 [(0, .ref q_t), (1, .ref q_p0), (2, .ref q_p1), (3, .int (nI l3)), (4, .int (nI l4)), (5, .int (nI l5)), (6, .int (nI l6))] → va_P (dC, dI) vwCl ((w_PA K q_t q_t_pile q_t_leasts q_t_greatests q_t_former f_t_pile f_t_leasts f_t_greatests f_t_former y_t_pile z_t_leasts z_t_greatests z_t_former) ++ (w_WD K q_p0 q_p0_bits q_p0_closings f_p0_bits f_p0_closings z_p0_bits z_p0_closings z_p0_pairs) ++ (wArr K 20 q_p1 f_p1 y_p1)) H → va_D A ((w_PA K q_t q_t_pile q_t_leasts q_t_greatests q_t_former f_t_pile f_t_leasts f_t_greatests f_t_former y_t_pile z_t_leasts z_t_greatests z_t_former) ++ (w_WD K q_p0 q_p0_bits q_p0_closings f_p0_bits f_p0_closings z_p0_bits z_p0_closings z_p0_pairs) ++ (wArr K 20 q_p1 f_p1 y_p1)) → va_S A s.heap H locs → W p l e (headSpec wc_PA_write rm_PA_write).room s m args below meth c H locs 0 0 Q (F0 m 39 ls []) := by
    intro ih IH l3 l4 l5 l6 y_t_pile y_p1 H locs ls hf hl hP hD hS
    unfold b_PA_write_39 at hf
    refine lv_iload hx hb dPA_write_39 (lv_at hl 6 rfl) ?_
    refine lv_iload_n hx hb dPA_write_41 rfl (lv_at hl 3 rfl) ?_
    refine lx_icmp_ge (tgt := 69) hx hb dPA_write_42 (by decide) hf (fun hf => ?_) (fun hf => ?_)
    · refine lv_iload hx hb dPA_write_69 (lv_at hl 5 rfl) ?_
      refine lv_istore_n hx hb dPA_write_71 rfl hl (by decide) rfl (fun ls hl => ?_)
      refine lx_iinc (k := 4) (d := 1) hx hb dPA_write_72 hl rfl (by decide +kernel) (by decide) rfl (fun ls hl => ?_)
      refine lv_goto (tgt := 5) hx hb dPA_write_75 (by decide) ?_
      have hf := fz_s hf
      exact IH.1 l5 (iA l4 1) y_t_pile y_p1 _ _ _ hf (lv_sub hl [2, 3, 4, 1, 0] rfl) hP hD hS
    · refine lv_aload_n hx hb dPA_write_45 rfl (lv_at hl 2 rfl) ?_
      refine lv_aload_n hx hb dPA_write_46 rfl (lv_at hl 0 rfl) ?_
      refine va_get (D := (dC, dI)) (ci := 4) (v := .ref q_t_pile) (C := RPA) (T := TPA) (N := 4) hx hb hws uwPA hown hK hP 0 rfl rfl 0 (by decide) (hws _ kf_PA_9) (fun _ h9 => h9) rfl dPA_write_47 ?_
      refine lv_iload hx hb dPA_write_50 (lv_at hl 6 rfl) ?_
      refine lx_iald hx hb hK hP 1 0 rfl rfl (by decide) dPA_write_52 hf (fun v8 _ hf => ?_)
      refine lv_iconst (v := nI 1) hx hb dPA_write_53 (by decide +kernel) ?_
      refine lx_isub hx hb dPA_write_54 ?_
      refine lv_aload_n hx hb dPA_write_55 rfl (lv_at hl 0 rfl) ?_
      refine va_get (D := (dC, dI)) (ci := 4) (v := .ref q_t_pile) (C := RPA) (T := TPA) (N := 4) hx hb hws uwPA hown hK hP 0 rfl rfl 0 (by decide) (hws _ kf_PA_9) (fun _ h9 => h9) rfl dPA_write_56 ?_
      refine lv_iload hx hb dPA_write_59 (lv_at hl 5 rfl) ?_
      refine lx_iald hx hb hK hP 1 0 rfl rfl (by decide) dPA_write_61 hf (fun v9 _ hf => ?_)
      refine lx_iast hx hb hK hP hD hS 8 0 rfl rfl (by decide) dPA_write_62 hf (fun hf H locs hP hD hS => ?_)
      have hP : va_P (dC, dI) vwCl ((w_PA K q_t q_t_pile q_t_leasts q_t_greatests q_t_former f_t_pile f_t_leasts f_t_greatests f_t_former y_t_pile z_t_leasts z_t_greatests z_t_former) ++ (w_WD K q_p0 q_p0_bits q_p0_closings f_p0_bits f_p0_closings z_p0_bits z_p0_closings z_p0_pairs) ++ (wArr K 20 q_p1 f_p1 (aw y_p1 (iS v8 1) v9))) H := hP
      have hD : va_D A ((w_PA K q_t q_t_pile q_t_leasts q_t_greatests q_t_former f_t_pile f_t_leasts f_t_greatests f_t_former y_t_pile z_t_leasts z_t_greatests z_t_former) ++ (w_WD K q_p0 q_p0_bits q_p0_closings f_p0_bits f_p0_closings z_p0_bits z_p0_closings z_p0_pairs) ++ (wArr K 20 q_p1 f_p1 (aw y_p1 (iS v8 1) v9))) := hD
      refine lx_iinc (k := 6) (d := 1) hx hb dPA_write_63 hl rfl (by decide +kernel) (by decide) rfl (fun ls hl => ?_)
      refine lv_goto (tgt := 39) hx hb dPA_write_66 (by decide) ?_
      have hf := fz_s hf
      have hf := fz_s hf
      exact IH.2 l3 l4 l5 (iA l6 1) y_t_pile (aw y_p1 (iS v8 1) v9) _ _ _ hf (lv_sub hl [1, 2, 3, 4, 5, 6, 0] rfl) hP hD hS
  have key : ∀ k : Nat, (∀ (l3 l4 y_t_pile y_p1 : Nat) (H : Heap) (locs : List Loc) (ls : Array Slot), fr_PA_write z_t_pile z_p0_closings z_p0_pairs z_p1 k 0 l3 l4 y_t_pile y_p1 0 0 = some r → lv_has ls 7 [(0, .ref q_t), (1, .ref q_p0), (2, .ref q_p1), (3, .int (nI l3)), (4, .int (nI l4))] → va_P (dC, dI) vwCl ((w_PA K q_t q_t_pile q_t_leasts q_t_greatests q_t_former f_t_pile f_t_leasts f_t_greatests f_t_former y_t_pile z_t_leasts z_t_greatests z_t_former) ++ (w_WD K q_p0 q_p0_bits q_p0_closings f_p0_bits f_p0_closings z_p0_bits z_p0_closings z_p0_pairs) ++ (wArr K 20 q_p1 f_p1 y_p1)) H → va_D A ((w_PA K q_t q_t_pile q_t_leasts q_t_greatests q_t_former f_t_pile f_t_leasts f_t_greatests f_t_former y_t_pile z_t_leasts z_t_greatests z_t_former) ++ (w_WD K q_p0 q_p0_bits q_p0_closings f_p0_bits f_p0_closings z_p0_bits z_p0_closings z_p0_pairs) ++ (wArr K 20 q_p1 f_p1 y_p1)) → va_S A s.heap H locs → W p l e (headSpec wc_PA_write rm_PA_write).room s m args below meth c H locs 0 0 Q (F0 m 5 ls [])) ∧ (∀ (l3 l4 l5 l6 y_t_pile y_p1 : Nat) (H : Heap) (locs : List Loc) (ls : Array Slot), fr_PA_write z_t_pile z_p0_closings z_p0_pairs z_p1 k 1 l3 l4 l5 l6 y_t_pile y_p1 = some r → lv_has ls 7 [(0, .ref q_t), (1, .ref q_p0), (2, .ref q_p1), (3, .int (nI l3)), (4, .int (nI l4)), (5, .int (nI l5)), (6, .int (nI l6))] → va_P (dC, dI) vwCl ((w_PA K q_t q_t_pile q_t_leasts q_t_greatests q_t_former f_t_pile f_t_leasts f_t_greatests f_t_former y_t_pile z_t_leasts z_t_greatests z_t_former) ++ (w_WD K q_p0 q_p0_bits q_p0_closings f_p0_bits f_p0_closings z_p0_bits z_p0_closings z_p0_pairs) ++ (wArr K 20 q_p1 f_p1 y_p1)) H → va_D A ((w_PA K q_t q_t_pile q_t_leasts q_t_greatests q_t_former f_t_pile f_t_leasts f_t_greatests f_t_former y_t_pile z_t_leasts z_t_greatests z_t_former) ++ (w_WD K q_p0 q_p0_bits q_p0_closings f_p0_bits f_p0_closings z_p0_bits z_p0_closings z_p0_pairs) ++ (wArr K 20 q_p1 f_p1 y_p1)) → va_S A s.heap H locs → W p l e (headSpec wc_PA_write rm_PA_write).room s m args below meth c H locs 0 0 Q (F0 m 39 ls [])) := by
    intro k
    induction k with
    | zero => exact ⟨fun l3 l4 y_t_pile y_p1 H locs ls hf _ _ _ _ => no_s (α := Nat × Nat) (r := r) hf, fun l3 l4 l5 l6 y_t_pile y_p1 H locs ls hf _ _ _ _ => no_s (α := Nat × Nat) (r := r) hf⟩
    | succ k IH => exact ⟨fun l3 l4 y_t_pile y_p1 H locs ls hf => hb_5 (fr_PA_write z_t_pile z_p0_closings z_p0_pairs z_p1 k) IH l3 l4 y_t_pile y_p1 H locs ls ((frs_PA_write_5 z_t_pile z_p0_closings z_p0_pairs z_p1 k l3 l4 y_t_pile y_p1).symm.trans hf), fun l3 l4 l5 l6 y_t_pile y_p1 H locs ls hf => hb_39 (fr_PA_write z_t_pile z_p0_closings z_p0_pairs z_p1 k) IH l3 l4 l5 l6 y_t_pile y_p1 H locs ls ((frs_PA_write_39 z_t_pile z_p0_closings z_p0_pairs z_p1 k l3 l4 l5 l6 y_t_pile y_p1).symm.trans hf)⟩
  have IH := key 1000000
  have hf : e_PA_write (fr_PA_write z_t_pile z_p0_closings z_p0_pairs z_p1 1000000) z_t_pile z_p0_closings z_p0_pairs z_p1 = some r := hf
  unfold e_PA_write at hf
  generalize fr_PA_write z_t_pile z_p0_closings z_p0_pairs z_p1 1000000 = ih at hf IH
  refine lv_iconst (v := nI 0) hx hb dPA_write_0 (by decide +kernel) ?_
  refine lv_istore_n hx hb dPA_write_1 rfl hl (by decide) rfl (fun ls hl => ?_)
  refine lv_iconst (v := nI 1) hx hb dPA_write_2 (by decide +kernel) ?_
  refine lv_istore hx hb dPA_write_3 hl (by decide) rfl (fun ls hl => ?_)
  exact IH.1 0 1 z_t_pile z_p1 _ _ _ hf (lv_sub hl [2, 3, 4, 1, 0] rfl) hP hD hS
noncomputable def b_PA_writeL_5 (ih : Nat → Nat → Nat → Nat → Nat → Nat → Nat → Option (Nat × Nat)) (z_t_pile : Nat) (z_t_leasts : Nat) (z_p0_closings : Nat) (z_p0_pairs : Nat) (l3 : Nat) (l4 : Nat) (y_t_pile : Nat) (y_t_leasts : Nat) : Option (Nat × Nat) := (Option.bind (f_WD_pairs z_p0_pairs) (fun q1 => (bif iLt q1 l4 then some (y_t_pile, y_t_leasts) else (bif Nat.blt l3 9 then (Option.bind (f_WD_closingsAfter l4 z_p0_closings z_p0_pairs) (fun q2 => (fz (iA l3 1) (fun u3 => fz (iS (iA l3 1) q2) (fun u4 => fz (iS (iA l3 1) q2) (fun u5 => fz (aw y_t_pile l3 l4) (fun u6 => ih 1 u3 l4 u4 u5 u6 y_t_leasts))))))) else none))))
noncomputable def b_PA_writeL_39 (ih : Nat → Nat → Nat → Nat → Nat → Nat → Nat → Option (Nat × Nat)) (z_t_pile : Nat) (z_t_leasts : Nat) (z_p0_closings : Nat) (z_p0_pairs : Nat) (l3 : Nat) (l4 : Nat) (l5 : Nat) (l6 : Nat) (y_t_pile : Nat) (y_t_leasts : Nat) : Option (Nat × Nat) := (bif iLt l6 l3 then (rd y_t_pile 9 l6 (fun v8 => (rd y_t_pile 9 l5 (fun v9 => (bif Nat.blt (iS v8 1) 9 then (fz (iA l6 1) (fun u10 => fz (aw y_t_leasts (iS v8 1) v9) (fun u11 => ih 1 l3 l4 l5 u10 y_t_pile u11))) else none))))) else (fz (iA l4 1) (fun u7 => ih 0 l5 u7 y_t_pile y_t_leasts 0 0)))
noncomputable def fr_PA_writeL (z_t_pile : Nat) (z_t_leasts : Nat) (z_p0_closings : Nat) (z_p0_pairs : Nat) (k : Nat) : Nat → Nat → Nat → Nat → Nat → Nat → Nat → Option (Nat × Nat) := Nat.rec (motive := fun _ => Nat → Nat → Nat → Nat → Nat → Nat → Nat → Option (Nat × Nat)) (fun _ _ _ _ _ _ _ => none) (fun _ ih hh a0 a1 a2 a3 a4 a5 => (Nat.rec (motive := fun _ => Option (Nat × Nat)) (b_PA_writeL_5 ih z_t_pile z_t_leasts z_p0_closings z_p0_pairs a0 a1 a2 a3) (fun h0 _ => (Nat.rec (motive := fun _ => Option (Nat × Nat)) (b_PA_writeL_39 ih z_t_pile z_t_leasts z_p0_closings z_p0_pairs a0 a1 a2 a3 a4 a5) (fun h1 _ => none) h0)) hh)) k
theorem frs_PA_writeL_5 (z_t_pile : Nat) (z_t_leasts : Nat) (z_p0_closings : Nat) (z_p0_pairs : Nat) (k : Nat) (l3 : Nat) (l4 : Nat) (y_t_pile : Nat) (y_t_leasts : Nat) : fr_PA_writeL z_t_pile z_t_leasts z_p0_closings z_p0_pairs (k + 1) 0 l3 l4 y_t_pile y_t_leasts 0 0 = b_PA_writeL_5 (fr_PA_writeL z_t_pile z_t_leasts z_p0_closings z_p0_pairs k) z_t_pile z_t_leasts z_p0_closings z_p0_pairs l3 l4 y_t_pile y_t_leasts := rfl
theorem frs_PA_writeL_39 (z_t_pile : Nat) (z_t_leasts : Nat) (z_p0_closings : Nat) (z_p0_pairs : Nat) (k : Nat) (l3 : Nat) (l4 : Nat) (l5 : Nat) (l6 : Nat) (y_t_pile : Nat) (y_t_leasts : Nat) : fr_PA_writeL z_t_pile z_t_leasts z_p0_closings z_p0_pairs (k + 1) 1 l3 l4 l5 l6 y_t_pile y_t_leasts = b_PA_writeL_39 (fr_PA_writeL z_t_pile z_t_leasts z_p0_closings z_p0_pairs k) z_t_pile z_t_leasts z_p0_closings z_p0_pairs l3 l4 l5 l6 y_t_pile y_t_leasts := rfl
noncomputable def e_PA_writeL (ih : Nat → Nat → Nat → Nat → Nat → Nat → Nat → Option (Nat × Nat)) (z_t_pile : Nat) (z_t_leasts : Nat) (z_p0_closings : Nat) (z_p0_pairs : Nat) : Option (Nat × Nat) := (ih 0 0 1 z_t_pile z_t_leasts 0 0)
noncomputable def f_PA_writeL (z_t_pile : Nat) (z_t_leasts : Nat) (z_p0_closings : Nat) (z_p0_pairs : Nat) : Option (Nat × Nat) := e_PA_writeL (fr_PA_writeL z_t_pile z_t_leasts z_p0_closings z_p0_pairs 1000000) z_t_pile z_t_leasts z_p0_closings z_p0_pairs
abbrev rm_PA_writeL : Room := { frames := 1, cells := 0, slots := 0, locals := 21 }
set_option maxHeartbeats 4000000 in
set_option maxRecDepth 100000 in
theorem ct_PA_writeL (l : Launch) (dC : Nat → ClassId) (dI : Nat → Nat → Nat) (K : Nat → ClassId) (q_t : Nat) (q_t_pile : Nat) (q_t_leasts : Nat) (q_t_greatests : Nat) (q_t_former : Nat) (q_p0 : Nat) (q_p0_bits : Nat) (q_p0_closings : Nat) (f_t_pile : Nat → Int32) (f_t_leasts : Nat → Int32) (f_t_greatests : Nat → Int32) (f_t_former : Nat → Int32) (f_p0_bits : Nat → Int32) (f_p0_closings : Nat → Int32) (z_t_pile : Nat) (z_t_leasts : Nat) (z_t_greatests : Nat) (z_t_former : Nat) (z_p0_bits : Nat) (z_p0_closings : Nat) (z_p0_pairs : Nat) (r : Nat × Nat) (hf : f_PA_writeL z_t_pile z_t_leasts z_p0_closings z_p0_pairs = some r) : Ct l (dC, dI) vwCl yPA_write wc_PA_write rm_PA_writeL (tyK K) [.ref q_t, .ref q_p0, .ref q_t_leasts] ((w_PA K q_t q_t_pile q_t_leasts q_t_greatests q_t_former f_t_pile f_t_leasts f_t_greatests f_t_former z_t_pile z_t_leasts z_t_greatests z_t_former) ++ (w_WD K q_p0 q_p0_bits q_p0_closings f_p0_bits f_p0_closings z_p0_bits z_p0_closings z_p0_pairs)) ((w_PA K q_t q_t_pile q_t_leasts q_t_greatests q_t_former f_t_pile f_t_leasts f_t_greatests f_t_former r.1 r.2 z_t_greatests z_t_former) ++ (w_WD K q_p0 q_p0_bits q_p0_closings f_p0_bits f_p0_closings z_p0_bits z_p0_closings z_p0_pairs)) none := by
  intro sz
  refine Met.ofW (cc := cPA_write) (maxL := 7) (ret := none) (by decide) rfl ?_
  intro p e s m args below meth c s₁ B hml hv
  obtain ⟨rfl, hsz, hP, hK, hD0⟩ := hv
  have hx := B.exec
  have hb := B.bytes
  have hr := B.returns
  have hts := atoms_spec (ws := wc_PA_write) B.pre
  have hws : ∀ w ∈ WS, w.before _ s = true := fun w h => hts w (List.mem_cons_of_mem _ h)
  have hown : s.vm.findClass RPA = some m.cls := findClass_of_methodNamed B.named
  have hlocks := B.notSynchronized
  subst hsz
  have hD := hD0.self (sz := s.heap.size)
  generalize hAe : va_A ((w_PA K q_t q_t_pile q_t_leasts q_t_greatests q_t_former f_t_pile f_t_leasts f_t_greatests f_t_former z_t_pile z_t_leasts z_t_greatests z_t_former) ++ (w_WD K q_p0 q_p0_bits q_p0_closings f_p0_bits f_p0_closings z_p0_bits z_p0_closings z_p0_pairs)) s.heap.size = A at hD ⊢
  have hA : ∀ q : Nat, s.heap.size ≤ q → A q := fun q h => by rw [← hAe]; exact Or.inr h
  have hS : va_S A s.heap s.heap [] := va_S.rf
  have hl := lv_entry ([.ref q_t, .ref q_p0, .ref q_t_leasts]) (n := 7) (Nat.le_of_ble_eq_true rfl)
  rw [lg_entry_eq]
  generalize (lg_sl ([.ref q_t, .ref q_p0, .ref q_t_leasts]) ++ List.replicate (7 - (lg_sl ([.ref q_t, .ref q_p0, .ref q_t_leasts])).length) Slot.unset).toArray = ls at hl ⊢
  have hl : lv_has ls 7 [(0, .ref q_t), (1, .ref q_p0), (2, .ref q_t_leasts)] := hl
  generalize ([.ref q_t, .ref q_p0, .ref q_t_leasts] : List Value).toArray = args at hts hws ⊢
  generalize hQ : MQ below _ _ _ _ _ _ = Q
  have hb_5 : ∀ (ih : Nat → Nat → Nat → Nat → Nat → Nat → Nat → Option (Nat × Nat)) (IH : (∀ (l3 l4 y_t_pile y_t_leasts : Nat) (H : Heap) (locs : List Loc) (ls : Array Slot), ih 0 l3 l4 y_t_pile y_t_leasts 0 0 = some r → lv_has ls 7 [(0, .ref q_t), (1, .ref q_p0), (2, .ref q_t_leasts), (3, .int (nI l3)), (4, .int (nI l4))] → va_P (dC, dI) vwCl ((w_PA K q_t q_t_pile q_t_leasts q_t_greatests q_t_former f_t_pile f_t_leasts f_t_greatests f_t_former y_t_pile y_t_leasts z_t_greatests z_t_former) ++ (w_WD K q_p0 q_p0_bits q_p0_closings f_p0_bits f_p0_closings z_p0_bits z_p0_closings z_p0_pairs)) H → va_D A ((w_PA K q_t q_t_pile q_t_leasts q_t_greatests q_t_former f_t_pile f_t_leasts f_t_greatests f_t_former y_t_pile y_t_leasts z_t_greatests z_t_former) ++ (w_WD K q_p0 q_p0_bits q_p0_closings f_p0_bits f_p0_closings z_p0_bits z_p0_closings z_p0_pairs)) → va_S A s.heap H locs → W p l e (headSpec wc_PA_write rm_PA_writeL).room s m args below meth c H locs 0 0 Q (F0 m 5 ls [])) ∧ (∀ (l3 l4 l5 l6 y_t_pile y_t_leasts : Nat) (H : Heap) (locs : List Loc) (ls : Array Slot), ih 1 l3 l4 l5 l6 y_t_pile y_t_leasts = some r → lv_has ls 7 [(0, .ref q_t), (1, .ref q_p0), (2, .ref q_t_leasts), (3, .int (nI l3)), (4, .int (nI l4)), (5, .int (nI l5)), (6, .int (nI l6))] → va_P (dC, dI) vwCl ((w_PA K q_t q_t_pile q_t_leasts q_t_greatests q_t_former f_t_pile f_t_leasts f_t_greatests f_t_former y_t_pile y_t_leasts z_t_greatests z_t_former) ++ (w_WD K q_p0 q_p0_bits q_p0_closings f_p0_bits f_p0_closings z_p0_bits z_p0_closings z_p0_pairs)) H → va_D A ((w_PA K q_t q_t_pile q_t_leasts q_t_greatests q_t_former f_t_pile f_t_leasts f_t_greatests f_t_former y_t_pile y_t_leasts z_t_greatests z_t_former) ++ (w_WD K q_p0 q_p0_bits q_p0_closings f_p0_bits f_p0_closings z_p0_bits z_p0_closings z_p0_pairs)) → va_S A s.heap H locs → W p l e (headSpec wc_PA_write rm_PA_writeL).room s m args below meth c H locs 0 0 Q (F0 m 39 ls []))), ∀ (l3 l4 y_t_pile y_t_leasts : Nat) (H : Heap) (locs : List Loc) (ls : Array Slot), b_PA_writeL_5 ih z_t_pile z_t_leasts z_p0_closings z_p0_pairs l3 l4 y_t_pile y_t_leasts = some r → lv_has ls 7 [(0, .ref q_t), (1, .ref q_p0), (2, .ref q_t_leasts), (3, .int (nI l3)), (4, .int (nI l4))] → va_P (dC, dI) vwCl ((w_PA K q_t q_t_pile q_t_leasts q_t_greatests q_t_former f_t_pile f_t_leasts f_t_greatests f_t_former y_t_pile y_t_leasts z_t_greatests z_t_former) ++ (w_WD K q_p0 q_p0_bits q_p0_closings f_p0_bits f_p0_closings z_p0_bits z_p0_closings z_p0_pairs)) H → va_D A ((w_PA K q_t q_t_pile q_t_leasts q_t_greatests q_t_former f_t_pile f_t_leasts f_t_greatests f_t_former y_t_pile y_t_leasts z_t_greatests z_t_former) ++ (w_WD K q_p0 q_p0_bits q_p0_closings f_p0_bits f_p0_closings z_p0_bits z_p0_closings z_p0_pairs)) → va_S A s.heap H locs → W p l e (headSpec wc_PA_write rm_PA_writeL).room s m args below meth c H locs 0 0 Q (F0 m 5 ls []) := by
    intro ih IH l3 l4 y_t_pile y_t_leasts H locs ls hf hl hP hD hS
    unfold b_PA_writeL_5 at hf
    refine lv_iload hx hb dPA_write_5 (lv_at hl 4 rfl) ?_
    refine lv_aload_n hx hb dPA_write_7 rfl (lv_at hl 1 rfl) ?_
    obtain ⟨q1, hq, hf⟩ := bd_s hf
    refine ct_callr (ws' := (w_PA K q_t q_t_pile q_t_leasts q_t_greatests q_t_former f_t_pile f_t_leasts f_t_greatests f_t_former y_t_pile y_t_leasts z_t_greatests z_t_former) ++ (w_WD K q_p0 q_p0_bits q_p0_closings f_p0_bits f_p0_closings z_p0_bits z_p0_closings z_p0_pairs)) (va_runV (As := []) (rest := [.int (nI l4)]) ⟨hx, hb, hml, hown, hws⟩ (ct_WD_pairs l dC dI K q_p0 q_p0_bits q_p0_closings f_p0_bits f_p0_closings z_p0_bits z_p0_closings z_p0_pairs q1 hq _) ⟨cb_WD_pairs hws rm_WD_pairs (hws _ km_PA_24) ⟨Nat.le_of_ble_eq_true rfl, Nat.le_of_ble_eq_true rfl⟩, hws _ ki_WD_pairs, hws _ ke_WD_WD_pairs_WD_pairs⟩ ⟨ct_blind _ _ _, va_recv (ci := 8) (q0 := 5) (q := (RWD, TWD, 3)) hK hP rfl rfl, ct_pre (cs := (w_WD K q_p0 q_p0_bits q_p0_closings f_p0_bits f_p0_closings z_p0_bits z_p0_closings z_p0_pairs)) hP hD hK [5, 6, 7] (by decide) rfl _⟩ rfl rfl hl.1 rfl (lv_room (Nat.le_of_ble_eq_true rfl)) dPA_write_8 ⟨Nat.le_of_ble_eq_true rfl, Nat.le_of_ble_eq_true rfl⟩) hP hD hS hA [5, 6, 7] rfl rfl rfl rfl (fun H locs hP hD hS => ?_)
    refine lx_icmp_gt (tgt := 78) hx hb dPA_write_11 (by decide) hf (fun hf => ?_) (fun hf => ?_)
    · obtain rfl := Option.some.inj hf
      rw [← hQ]
      exact W.vret hx hb hr (fun t ht hW => ⟨⟨rfl, by rw [ht]; exact hP⟩, hS.F ht⟩) hS.2.2 dPA_write_78
    · refine lv_aload_n hx hb dPA_write_14 rfl (lv_at hl 0 rfl) ?_
      refine va_get (D := (dC, dI)) (ci := 4) (v := .ref q_t_pile) (C := RPA) (T := TPA) (N := 4) hx hb hws uwPA hown hK hP 0 rfl rfl 0 (by decide) (hws _ kf_PA_9) (fun _ h9 => h9) rfl dPA_write_15 ?_
      refine lv_iload_n hx hb dPA_write_18 rfl (lv_at hl 3 rfl) ?_
      refine lv_iload hx hb dPA_write_19 (lv_at hl 4 rfl) ?_
      refine lx_iast hx hb hK hP hD hS 1 0 rfl rfl (by decide) dPA_write_21 hf (fun hf H locs hP hD hS => ?_)
      have hP : va_P (dC, dI) vwCl ((w_PA K q_t q_t_pile q_t_leasts q_t_greatests q_t_former f_t_pile f_t_leasts f_t_greatests f_t_former (aw y_t_pile l3 l4) y_t_leasts z_t_greatests z_t_former) ++ (w_WD K q_p0 q_p0_bits q_p0_closings f_p0_bits f_p0_closings z_p0_bits z_p0_closings z_p0_pairs)) H := hP
      have hD : va_D A ((w_PA K q_t q_t_pile q_t_leasts q_t_greatests q_t_former f_t_pile f_t_leasts f_t_greatests f_t_former (aw y_t_pile l3 l4) y_t_leasts z_t_greatests z_t_former) ++ (w_WD K q_p0 q_p0_bits q_p0_closings f_p0_bits f_p0_closings z_p0_bits z_p0_closings z_p0_pairs)) := hD
      refine lx_iinc (k := 3) (d := 1) hx hb dPA_write_22 hl rfl (by decide +kernel) (by decide) rfl (fun ls hl => ?_)
      refine lv_iload_n hx hb dPA_write_25 rfl (lv_at hl 0 rfl) ?_
      refine lv_aload_n hx hb dPA_write_26 rfl (lv_at hl 2 rfl) ?_
      refine lv_iload hx hb dPA_write_27 (lv_at hl 4 rfl) ?_
      obtain ⟨q2, hq, hf⟩ := bd_s hf
      refine ct_callr (ws' := (w_PA K q_t q_t_pile q_t_leasts q_t_greatests q_t_former f_t_pile f_t_leasts f_t_greatests f_t_former (aw y_t_pile l3 l4) y_t_leasts z_t_greatests z_t_former) ++ (w_WD K q_p0 q_p0_bits q_p0_closings f_p0_bits f_p0_closings z_p0_bits z_p0_closings z_p0_pairs)) (va_runV (As := [.int (nI l4)]) (rest := [.int (nI (iA l3 1))]) ⟨hx, hb, hml, hown, hws⟩ (ct_WD_closingsAfter l dC dI K q_p0 q_p0_bits q_p0_closings f_p0_bits f_p0_closings l4 z_p0_bits z_p0_closings z_p0_pairs q2 hq _) ⟨cb_WD_closingsAfter hws rm_WD_closingsAfter (hws _ km_PA_30) ⟨Nat.le_of_ble_eq_true rfl, Nat.le_of_ble_eq_true rfl⟩, hws _ ki_WD_closingsAfter, hws _ ke_WD_WD_closingsAfter_WD_closingsAfter⟩ ⟨ct_blind _ _ _, va_recv (ci := 8) (q0 := 5) (q := (RWD, TWD, 3)) hK hP rfl rfl, ct_pre (cs := (w_WD K q_p0 q_p0_bits q_p0_closings f_p0_bits f_p0_closings z_p0_bits z_p0_closings z_p0_pairs)) hP hD hK [5, 6, 7] (by decide) rfl _⟩ rfl rfl hl.1 rfl (lv_room (Nat.le_of_ble_eq_true rfl)) dPA_write_29 ⟨Nat.le_of_ble_eq_true rfl, Nat.le_of_ble_eq_true rfl⟩) hP hD hS hA [5, 6, 7] rfl rfl rfl rfl (fun H locs hP hD hS => ?_)
      refine lx_isub hx hb dPA_write_32 ?_
      refine lv_istore hx hb dPA_write_33 hl (by decide) rfl (fun ls hl => ?_)
      refine lv_iload hx hb dPA_write_35 (lv_at hl 0 rfl) ?_
      refine lv_istore hx hb dPA_write_37 hl (by decide) rfl (fun ls hl => ?_)
      have hf := fz_s hf
      have hf := fz_s hf
      have hf := fz_s hf
      have hf := fz_s hf
      exact IH.2 (iA l3 1) l4 (iS (iA l3 1) q2) (iS (iA l3 1) q2) (aw y_t_pile l3 l4) y_t_leasts _ _ _ hf (lv_sub hl [3, 4, 5, 2, 6, 1, 0] rfl) hP hD hS
  have hb_39 : ∀ (ih : Nat → Nat → Nat → Nat → Nat → Nat → Nat → Option (Nat × Nat)) (IH : (∀ (l3 l4 y_t_pile y_t_leasts : Nat) (H : Heap) (locs : List Loc) (ls : Array Slot), ih 0 l3 l4 y_t_pile y_t_leasts 0 0 = some r → lv_has ls 7 [(0, .ref q_t), (1, .ref q_p0), (2, .ref q_t_leasts), (3, .int (nI l3)), (4, .int (nI l4))] → va_P (dC, dI) vwCl ((w_PA K q_t q_t_pile q_t_leasts q_t_greatests q_t_former f_t_pile f_t_leasts f_t_greatests f_t_former y_t_pile y_t_leasts z_t_greatests z_t_former) ++ (w_WD K q_p0 q_p0_bits q_p0_closings f_p0_bits f_p0_closings z_p0_bits z_p0_closings z_p0_pairs)) H → va_D A ((w_PA K q_t q_t_pile q_t_leasts q_t_greatests q_t_former f_t_pile f_t_leasts f_t_greatests f_t_former y_t_pile y_t_leasts z_t_greatests z_t_former) ++ (w_WD K q_p0 q_p0_bits q_p0_closings f_p0_bits f_p0_closings z_p0_bits z_p0_closings z_p0_pairs)) → va_S A s.heap H locs → W p l e (headSpec wc_PA_write rm_PA_writeL).room s m args below meth c H locs 0 0 Q (F0 m 5 ls [])) ∧ (∀ (l3 l4 l5 l6 y_t_pile y_t_leasts : Nat) (H : Heap) (locs : List Loc) (ls : Array Slot), ih 1 l3 l4 l5 l6 y_t_pile y_t_leasts = some r → lv_has ls 7 [(0, .ref q_t), (1, .ref q_p0), (2, .ref q_t_leasts), (3, .int (nI l3)), (4, .int (nI l4)), (5, .int (nI l5)), (6, .int (nI l6))] → va_P (dC, dI) vwCl ((w_PA K q_t q_t_pile q_t_leasts q_t_greatests q_t_former f_t_pile f_t_leasts f_t_greatests f_t_former y_t_pile y_t_leasts z_t_greatests z_t_former) ++ (w_WD K q_p0 q_p0_bits q_p0_closings f_p0_bits f_p0_closings z_p0_bits z_p0_closings z_p0_pairs)) H → va_D A ((w_PA K q_t q_t_pile q_t_leasts q_t_greatests q_t_former f_t_pile f_t_leasts f_t_greatests f_t_former y_t_pile y_t_leasts z_t_greatests z_t_former) ++ (w_WD K q_p0 q_p0_bits q_p0_closings f_p0_bits f_p0_closings z_p0_bits z_p0_closings z_p0_pairs)) → va_S A s.heap H locs → W p l e (headSpec wc_PA_write rm_PA_writeL).room s m args below meth c H locs 0 0 Q (F0 m 39 ls []))), ∀ (l3 l4 l5 l6 y_t_pile y_t_leasts : Nat) (H : Heap) (locs : List Loc) (ls : Array Slot), b_PA_writeL_39 ih z_t_pile z_t_leasts z_p0_closings z_p0_pairs l3 l4 l5 l6 y_t_pile y_t_leasts = some r → lv_has ls 7 [(0, .ref q_t), (1, .ref q_p0), (2, .ref q_t_leasts), (3, .int (nI l3)), (4, .int (nI l4)), (5, .int (nI l5)), (6, .int (nI l6))] → va_P (dC, dI) vwCl ((w_PA K q_t q_t_pile q_t_leasts q_t_greatests q_t_former f_t_pile f_t_leasts f_t_greatests f_t_former y_t_pile y_t_leasts z_t_greatests z_t_former) ++ (w_WD K q_p0 q_p0_bits q_p0_closings f_p0_bits f_p0_closings z_p0_bits z_p0_closings z_p0_pairs)) H → va_D A ((w_PA K q_t q_t_pile q_t_leasts q_t_greatests q_t_former f_t_pile f_t_leasts f_t_greatests f_t_former y_t_pile y_t_leasts z_t_greatests z_t_former) ++ (w_WD K q_p0 q_p0_bits q_p0_closings f_p0_bits f_p0_closings z_p0_bits z_p0_closings z_p0_pairs)) → va_S A s.heap H locs → W p l e (headSpec wc_PA_write rm_PA_writeL).room s m args below meth c H locs 0 0 Q (F0 m 39 ls []) := by
    intro ih IH l3 l4 l5 l6 y_t_pile y_t_leasts H locs ls hf hl hP hD hS
    unfold b_PA_writeL_39 at hf
    refine lv_iload hx hb dPA_write_39 (lv_at hl 6 rfl) ?_
    refine lv_iload_n hx hb dPA_write_41 rfl (lv_at hl 3 rfl) ?_
    refine lx_icmp_ge (tgt := 69) hx hb dPA_write_42 (by decide) hf (fun hf => ?_) (fun hf => ?_)
    · refine lv_iload hx hb dPA_write_69 (lv_at hl 5 rfl) ?_
      refine lv_istore_n hx hb dPA_write_71 rfl hl (by decide) rfl (fun ls hl => ?_)
      refine lx_iinc (k := 4) (d := 1) hx hb dPA_write_72 hl rfl (by decide +kernel) (by decide) rfl (fun ls hl => ?_)
      refine lv_goto (tgt := 5) hx hb dPA_write_75 (by decide) ?_
      have hf := fz_s hf
      exact IH.1 l5 (iA l4 1) y_t_pile y_t_leasts _ _ _ hf (lv_sub hl [2, 3, 4, 1, 0] rfl) hP hD hS
    · refine lv_aload_n hx hb dPA_write_45 rfl (lv_at hl 2 rfl) ?_
      refine lv_aload_n hx hb dPA_write_46 rfl (lv_at hl 0 rfl) ?_
      refine va_get (D := (dC, dI)) (ci := 4) (v := .ref q_t_pile) (C := RPA) (T := TPA) (N := 4) hx hb hws uwPA hown hK hP 0 rfl rfl 0 (by decide) (hws _ kf_PA_9) (fun _ h9 => h9) rfl dPA_write_47 ?_
      refine lv_iload hx hb dPA_write_50 (lv_at hl 6 rfl) ?_
      refine lx_iald hx hb hK hP 1 0 rfl rfl (by decide) dPA_write_52 hf (fun v8 _ hf => ?_)
      refine lv_iconst (v := nI 1) hx hb dPA_write_53 (by decide +kernel) ?_
      refine lx_isub hx hb dPA_write_54 ?_
      refine lv_aload_n hx hb dPA_write_55 rfl (lv_at hl 0 rfl) ?_
      refine va_get (D := (dC, dI)) (ci := 4) (v := .ref q_t_pile) (C := RPA) (T := TPA) (N := 4) hx hb hws uwPA hown hK hP 0 rfl rfl 0 (by decide) (hws _ kf_PA_9) (fun _ h9 => h9) rfl dPA_write_56 ?_
      refine lv_iload hx hb dPA_write_59 (lv_at hl 5 rfl) ?_
      refine lx_iald hx hb hK hP 1 0 rfl rfl (by decide) dPA_write_61 hf (fun v9 _ hf => ?_)
      refine lx_iast hx hb hK hP hD hS 2 0 rfl rfl (by decide) dPA_write_62 hf (fun hf H locs hP hD hS => ?_)
      have hP : va_P (dC, dI) vwCl ((w_PA K q_t q_t_pile q_t_leasts q_t_greatests q_t_former f_t_pile f_t_leasts f_t_greatests f_t_former y_t_pile (aw y_t_leasts (iS v8 1) v9) z_t_greatests z_t_former) ++ (w_WD K q_p0 q_p0_bits q_p0_closings f_p0_bits f_p0_closings z_p0_bits z_p0_closings z_p0_pairs)) H := hP
      have hD : va_D A ((w_PA K q_t q_t_pile q_t_leasts q_t_greatests q_t_former f_t_pile f_t_leasts f_t_greatests f_t_former y_t_pile (aw y_t_leasts (iS v8 1) v9) z_t_greatests z_t_former) ++ (w_WD K q_p0 q_p0_bits q_p0_closings f_p0_bits f_p0_closings z_p0_bits z_p0_closings z_p0_pairs)) := hD
      refine lx_iinc (k := 6) (d := 1) hx hb dPA_write_63 hl rfl (by decide +kernel) (by decide) rfl (fun ls hl => ?_)
      refine lv_goto (tgt := 39) hx hb dPA_write_66 (by decide) ?_
      have hf := fz_s hf
      have hf := fz_s hf
      exact IH.2 l3 l4 l5 (iA l6 1) y_t_pile (aw y_t_leasts (iS v8 1) v9) _ _ _ hf (lv_sub hl [1, 2, 3, 4, 5, 6, 0] rfl) hP hD hS
  have key : ∀ k : Nat, (∀ (l3 l4 y_t_pile y_t_leasts : Nat) (H : Heap) (locs : List Loc) (ls : Array Slot), fr_PA_writeL z_t_pile z_t_leasts z_p0_closings z_p0_pairs k 0 l3 l4 y_t_pile y_t_leasts 0 0 = some r → lv_has ls 7 [(0, .ref q_t), (1, .ref q_p0), (2, .ref q_t_leasts), (3, .int (nI l3)), (4, .int (nI l4))] → va_P (dC, dI) vwCl ((w_PA K q_t q_t_pile q_t_leasts q_t_greatests q_t_former f_t_pile f_t_leasts f_t_greatests f_t_former y_t_pile y_t_leasts z_t_greatests z_t_former) ++ (w_WD K q_p0 q_p0_bits q_p0_closings f_p0_bits f_p0_closings z_p0_bits z_p0_closings z_p0_pairs)) H → va_D A ((w_PA K q_t q_t_pile q_t_leasts q_t_greatests q_t_former f_t_pile f_t_leasts f_t_greatests f_t_former y_t_pile y_t_leasts z_t_greatests z_t_former) ++ (w_WD K q_p0 q_p0_bits q_p0_closings f_p0_bits f_p0_closings z_p0_bits z_p0_closings z_p0_pairs)) → va_S A s.heap H locs → W p l e (headSpec wc_PA_write rm_PA_writeL).room s m args below meth c H locs 0 0 Q (F0 m 5 ls [])) ∧ (∀ (l3 l4 l5 l6 y_t_pile y_t_leasts : Nat) (H : Heap) (locs : List Loc) (ls : Array Slot), fr_PA_writeL z_t_pile z_t_leasts z_p0_closings z_p0_pairs k 1 l3 l4 l5 l6 y_t_pile y_t_leasts = some r → lv_has ls 7 [(0, .ref q_t), (1, .ref q_p0), (2, .ref q_t_leasts), (3, .int (nI l3)), (4, .int (nI l4)), (5, .int (nI l5)), (6, .int (nI l6))] → va_P (dC, dI) vwCl ((w_PA K q_t q_t_pile q_t_leasts q_t_greatests q_t_former f_t_pile f_t_leasts f_t_greatests f_t_former y_t_pile y_t_leasts z_t_greatests z_t_former) ++ (w_WD K q_p0 q_p0_bits q_p0_closings f_p0_bits f_p0_closings z_p0_bits z_p0_closings z_p0_pairs)) H → va_D A ((w_PA K q_t q_t_pile q_t_leasts q_t_greatests q_t_former f_t_pile f_t_leasts f_t_greatests f_t_former y_t_pile y_t_leasts z_t_greatests z_t_former) ++ (w_WD K q_p0 q_p0_bits q_p0_closings f_p0_bits f_p0_closings z_p0_bits z_p0_closings z_p0_pairs)) → va_S A s.heap H locs → W p l e (headSpec wc_PA_write rm_PA_writeL).room s m args below meth c H locs 0 0 Q (F0 m 39 ls [])) := by
    intro k
    induction k with
    | zero => exact ⟨fun l3 l4 y_t_pile y_t_leasts H locs ls hf _ _ _ _ => no_s (α := Nat × Nat) (r := r) hf, fun l3 l4 l5 l6 y_t_pile y_t_leasts H locs ls hf _ _ _ _ => no_s (α := Nat × Nat) (r := r) hf⟩
    | succ k IH => exact ⟨fun l3 l4 y_t_pile y_t_leasts H locs ls hf => hb_5 (fr_PA_writeL z_t_pile z_t_leasts z_p0_closings z_p0_pairs k) IH l3 l4 y_t_pile y_t_leasts H locs ls ((frs_PA_writeL_5 z_t_pile z_t_leasts z_p0_closings z_p0_pairs k l3 l4 y_t_pile y_t_leasts).symm.trans hf), fun l3 l4 l5 l6 y_t_pile y_t_leasts H locs ls hf => hb_39 (fr_PA_writeL z_t_pile z_t_leasts z_p0_closings z_p0_pairs k) IH l3 l4 l5 l6 y_t_pile y_t_leasts H locs ls ((frs_PA_writeL_39 z_t_pile z_t_leasts z_p0_closings z_p0_pairs k l3 l4 l5 l6 y_t_pile y_t_leasts).symm.trans hf)⟩
  have IH := key 1000000
  have hf : e_PA_writeL (fr_PA_writeL z_t_pile z_t_leasts z_p0_closings z_p0_pairs 1000000) z_t_pile z_t_leasts z_p0_closings z_p0_pairs = some r := hf
  unfold e_PA_writeL at hf
  generalize fr_PA_writeL z_t_pile z_t_leasts z_p0_closings z_p0_pairs 1000000 = ih at hf IH
  refine lv_iconst (v := nI 0) hx hb dPA_write_0 (by decide +kernel) ?_
  refine lv_istore_n hx hb dPA_write_1 rfl hl (by decide) rfl (fun ls hl => ?_)
  refine lv_iconst (v := nI 1) hx hb dPA_write_2 (by decide +kernel) ?_
  refine lv_istore hx hb dPA_write_3 hl (by decide) rfl (fun ls hl => ?_)
  exact IH.1 0 1 z_t_pile z_t_leasts _ _ _ hf (lv_sub hl [2, 3, 4, 1, 0] rfl) hP hD hS
noncomputable def j_PA_read_43 (ih : Nat → Nat → Nat → Nat → Nat → Option (Nat × Nat)) (z_t_greatests : Nat) (z_p0 : Nat) (z_p1_closings : Nat) (z_p1_pairs : Nat) (l3 : Nat) (l4 : Nat) (y_t_greatests : Nat) (y_p1_closings : Nat) : Option (Nat × Nat) := (fz (iA l4 1) (fun u7 => ih 0 l3 u7 y_t_greatests y_p1_closings))
noncomputable def j_PA_read_89 (ih : Nat → Nat → Nat → Nat → Nat → Option (Nat × Nat)) (z_t_greatests : Nat) (z_p0 : Nat) (z_p1_closings : Nat) (z_p1_pairs : Nat) (l3 : Nat) (l4 : Nat) (y_t_greatests : Nat) (y_p1_closings : Nat) : Option (Nat × Nat) := (fz (iA l4 1) (fun u8 => ih 1 l3 u8 y_t_greatests y_p1_closings))
noncomputable def b_PA_read_8 (ih : Nat → Nat → Nat → Nat → Nat → Option (Nat × Nat)) (z_t_greatests : Nat) (z_p0 : Nat) (z_p1_closings : Nat) (z_p1_pairs : Nat) (l3 : Nat) (l4 : Nat) (y_t_greatests : Nat) (y_p1_closings : Nat) : Option (Nat × Nat) := (bif iLt l3 l4 then (ih 1 l3 1 y_t_greatests y_p1_closings) else (rd z_p0 20 (iS l4 1) (fun v2 => (bif iLt v2 1 then (j_PA_read_43 ih z_t_greatests z_p0 z_p1_closings z_p1_pairs l3 l4 y_t_greatests y_p1_closings) else (bif iLt l3 v2 then (j_PA_read_43 ih z_t_greatests z_p0 z_p1_closings z_p1_pairs l3 l4 y_t_greatests y_p1_closings) else (bif Nat.blt v2 10 then (fz (aw y_t_greatests v2 l4) (fun u3 => j_PA_read_43 ih z_t_greatests z_p0 z_p1_closings z_p1_pairs l3 l4 u3 y_p1_closings)) else none))))))
noncomputable def b_PA_read_52 (ih : Nat → Nat → Nat → Nat → Nat → Option (Nat × Nat)) (z_t_greatests : Nat) (z_p0 : Nat) (z_p1_closings : Nat) (z_p1_pairs : Nat) (l3 : Nat) (l4 : Nat) (y_t_greatests : Nat) (y_p1_closings : Nat) : Option (Nat × Nat) := (bif iLt l3 l4 then some (y_t_greatests, y_p1_closings) else (rd z_p0 20 (iS l4 1) (fun v4 => (bif iLt v4 1 then (j_PA_read_89 ih z_t_greatests z_p0 z_p1_closings z_p1_pairs l3 l4 y_t_greatests y_p1_closings) else (bif iLt l3 v4 then (j_PA_read_89 ih z_t_greatests z_p0 z_p1_closings z_p1_pairs l3 l4 y_t_greatests y_p1_closings) else (rd y_t_greatests 10 v4 (fun v5 => (Option.bind (f_WD_closeAfter v5 y_p1_closings z_p1_pairs) (fun q6 => (j_PA_read_89 ih z_t_greatests z_p0 z_p1_closings z_p1_pairs l3 l4 y_t_greatests q6))))))))))
noncomputable def fr_PA_read (z_t_greatests : Nat) (z_p0 : Nat) (z_p1_closings : Nat) (z_p1_pairs : Nat) (k : Nat) : Nat → Nat → Nat → Nat → Nat → Option (Nat × Nat) := Nat.rec (motive := fun _ => Nat → Nat → Nat → Nat → Nat → Option (Nat × Nat)) (fun _ _ _ _ _ => none) (fun _ ih hh a0 a1 a2 a3 => (Nat.rec (motive := fun _ => Option (Nat × Nat)) (b_PA_read_8 ih z_t_greatests z_p0 z_p1_closings z_p1_pairs a0 a1 a2 a3) (fun h0 _ => (Nat.rec (motive := fun _ => Option (Nat × Nat)) (b_PA_read_52 ih z_t_greatests z_p0 z_p1_closings z_p1_pairs a0 a1 a2 a3) (fun h1 _ => none) h0)) hh)) k
theorem frs_PA_read_8 (z_t_greatests : Nat) (z_p0 : Nat) (z_p1_closings : Nat) (z_p1_pairs : Nat) (k : Nat) (l3 : Nat) (l4 : Nat) (y_t_greatests : Nat) (y_p1_closings : Nat) : fr_PA_read z_t_greatests z_p0 z_p1_closings z_p1_pairs (k + 1) 0 l3 l4 y_t_greatests y_p1_closings = b_PA_read_8 (fr_PA_read z_t_greatests z_p0 z_p1_closings z_p1_pairs k) z_t_greatests z_p0 z_p1_closings z_p1_pairs l3 l4 y_t_greatests y_p1_closings := rfl
theorem frs_PA_read_52 (z_t_greatests : Nat) (z_p0 : Nat) (z_p1_closings : Nat) (z_p1_pairs : Nat) (k : Nat) (l3 : Nat) (l4 : Nat) (y_t_greatests : Nat) (y_p1_closings : Nat) : fr_PA_read z_t_greatests z_p0 z_p1_closings z_p1_pairs (k + 1) 1 l3 l4 y_t_greatests y_p1_closings = b_PA_read_52 (fr_PA_read z_t_greatests z_p0 z_p1_closings z_p1_pairs k) z_t_greatests z_p0 z_p1_closings z_p1_pairs l3 l4 y_t_greatests y_p1_closings := rfl
noncomputable def e_PA_read (ih : Nat → Nat → Nat → Nat → Nat → Option (Nat × Nat)) (z_t_greatests : Nat) (z_p0 : Nat) (z_p1_closings : Nat) (z_p1_pairs : Nat) : Option (Nat × Nat) := (Option.bind (f_WD_pairs z_p1_pairs) (fun q1 => (ih 0 q1 1 z_t_greatests z_p1_closings)))
noncomputable def f_PA_read (z_t_greatests : Nat) (z_p0 : Nat) (z_p1_closings : Nat) (z_p1_pairs : Nat) : Option (Nat × Nat) := e_PA_read (fr_PA_read z_t_greatests z_p0 z_p1_closings z_p1_pairs 1000000) z_t_greatests z_p0 z_p1_closings z_p1_pairs
abbrev rm_PA_read : Room := { frames := 1, cells := 0, slots := 0, locals := 21 }
set_option maxHeartbeats 4000000 in
set_option maxRecDepth 100000 in
theorem ct_PA_read (l : Launch) (dC : Nat → ClassId) (dI : Nat → Nat → Nat) (K : Nat → ClassId) (q_t : Nat) (q_t_pile : Nat) (q_t_leasts : Nat) (q_t_greatests : Nat) (q_t_former : Nat) (q_p0 : Nat) (q_p1 : Nat) (q_p1_bits : Nat) (q_p1_closings : Nat) (f_t_pile : Nat → Int32) (f_t_leasts : Nat → Int32) (f_t_greatests : Nat → Int32) (f_t_former : Nat → Int32) (f_p0 : Nat → Int32) (f_p1_bits : Nat → Int32) (f_p1_closings : Nat → Int32) (z_t_pile : Nat) (z_t_leasts : Nat) (z_t_greatests : Nat) (z_t_former : Nat) (z_p0 : Nat) (z_p1_bits : Nat) (z_p1_closings : Nat) (z_p1_pairs : Nat) (r : Nat × Nat) (hf : f_PA_read z_t_greatests z_p0 z_p1_closings z_p1_pairs = some r) : Ct l (dC, dI) vwCl yPA_read wc_PA_read rm_PA_read (tyK K) [.ref q_t, .ref q_p0, .ref q_p1] ((w_PA K q_t q_t_pile q_t_leasts q_t_greatests q_t_former f_t_pile f_t_leasts f_t_greatests f_t_former z_t_pile z_t_leasts z_t_greatests z_t_former) ++ (wArr K 20 q_p0 f_p0 z_p0) ++ (w_WD K q_p1 q_p1_bits q_p1_closings f_p1_bits f_p1_closings z_p1_bits z_p1_closings z_p1_pairs)) ((w_PA K q_t q_t_pile q_t_leasts q_t_greatests q_t_former f_t_pile f_t_leasts f_t_greatests f_t_former z_t_pile z_t_leasts r.1 z_t_former) ++ (wArr K 20 q_p0 f_p0 z_p0) ++ (w_WD K q_p1 q_p1_bits q_p1_closings f_p1_bits f_p1_closings z_p1_bits r.2 z_p1_pairs)) none := by
  intro sz
  refine Met.ofW (cc := cPA_read) (maxL := 6) (ret := none) (by decide) rfl ?_
  intro p e s m args below meth c s₁ B hml hv
  obtain ⟨rfl, hsz, hP, hK, hD0⟩ := hv
  have hx := B.exec
  have hb := B.bytes
  have hr := B.returns
  have hts := atoms_spec (ws := wc_PA_read) B.pre
  have hws : ∀ w ∈ WS, w.before _ s = true := fun w h => hts w (List.mem_cons_of_mem _ h)
  have hown : s.vm.findClass RPA = some m.cls := findClass_of_methodNamed B.named
  have hlocks := B.notSynchronized
  subst hsz
  have hD := hD0.self (sz := s.heap.size)
  generalize hAe : va_A ((w_PA K q_t q_t_pile q_t_leasts q_t_greatests q_t_former f_t_pile f_t_leasts f_t_greatests f_t_former z_t_pile z_t_leasts z_t_greatests z_t_former) ++ (wArr K 20 q_p0 f_p0 z_p0) ++ (w_WD K q_p1 q_p1_bits q_p1_closings f_p1_bits f_p1_closings z_p1_bits z_p1_closings z_p1_pairs)) s.heap.size = A at hD ⊢
  have hA : ∀ q : Nat, s.heap.size ≤ q → A q := fun q h => by rw [← hAe]; exact Or.inr h
  have hS : va_S A s.heap s.heap [] := va_S.rf
  have hl := lv_entry ([.ref q_t, .ref q_p0, .ref q_p1]) (n := 6) (Nat.le_of_ble_eq_true rfl)
  rw [lg_entry_eq]
  generalize (lg_sl ([.ref q_t, .ref q_p0, .ref q_p1]) ++ List.replicate (6 - (lg_sl ([.ref q_t, .ref q_p0, .ref q_p1])).length) Slot.unset).toArray = ls at hl ⊢
  have hl : lv_has ls 6 [(0, .ref q_t), (1, .ref q_p0), (2, .ref q_p1)] := hl
  generalize ([.ref q_t, .ref q_p0, .ref q_p1] : List Value).toArray = args at hts hws ⊢
  generalize hQ : MQ below _ _ _ _ _ _ = Q
  have hj_43 : ∀ (ih : Nat → Nat → Nat → Nat → Nat → Option (Nat × Nat)) (IH : (∀ (l3 l4 y_t_greatests y_p1_closings : Nat) (H : Heap) (locs : List Loc) (ls : Array Slot), ih 0 l3 l4 y_t_greatests y_p1_closings = some r → lv_has ls 6 [(0, .ref q_t), (1, .ref q_p0), (2, .ref q_p1), (3, .int (nI l3)), (4, .int (nI l4))] → va_P (dC, dI) vwCl ((w_PA K q_t q_t_pile q_t_leasts q_t_greatests q_t_former f_t_pile f_t_leasts f_t_greatests f_t_former z_t_pile z_t_leasts y_t_greatests z_t_former) ++ (wArr K 20 q_p0 f_p0 z_p0) ++ (w_WD K q_p1 q_p1_bits q_p1_closings f_p1_bits f_p1_closings z_p1_bits y_p1_closings z_p1_pairs)) H → va_D A ((w_PA K q_t q_t_pile q_t_leasts q_t_greatests q_t_former f_t_pile f_t_leasts f_t_greatests f_t_former z_t_pile z_t_leasts y_t_greatests z_t_former) ++ (wArr K 20 q_p0 f_p0 z_p0) ++ (w_WD K q_p1 q_p1_bits q_p1_closings f_p1_bits f_p1_closings z_p1_bits y_p1_closings z_p1_pairs)) → va_S A s.heap H locs → W p l e (headSpec wc_PA_read rm_PA_read).room s m args below meth c H locs 0 0 Q (F0 m 8 ls [])) ∧ (∀ (l3 l4 y_t_greatests y_p1_closings : Nat) (H : Heap) (locs : List Loc) (ls : Array Slot), ih 1 l3 l4 y_t_greatests y_p1_closings = some r → lv_has ls 6 [(0, .ref q_t), (1, .ref q_p0), (2, .ref q_p1), (3, .int (nI l3)), (4, .int (nI l4))] → va_P (dC, dI) vwCl ((w_PA K q_t q_t_pile q_t_leasts q_t_greatests q_t_former f_t_pile f_t_leasts f_t_greatests f_t_former z_t_pile z_t_leasts y_t_greatests z_t_former) ++ (wArr K 20 q_p0 f_p0 z_p0) ++ (w_WD K q_p1 q_p1_bits q_p1_closings f_p1_bits f_p1_closings z_p1_bits y_p1_closings z_p1_pairs)) H → va_D A ((w_PA K q_t q_t_pile q_t_leasts q_t_greatests q_t_former f_t_pile f_t_leasts f_t_greatests f_t_former z_t_pile z_t_leasts y_t_greatests z_t_former) ++ (wArr K 20 q_p0 f_p0 z_p0) ++ (w_WD K q_p1 q_p1_bits q_p1_closings f_p1_bits f_p1_closings z_p1_bits y_p1_closings z_p1_pairs)) → va_S A s.heap H locs → W p l e (headSpec wc_PA_read rm_PA_read).room s m args below meth c H locs 0 0 Q (F0 m 52 ls []))), ∀ (l3 l4 y_t_greatests y_p1_closings : Nat) (H : Heap) (locs : List Loc) (ls : Array Slot), j_PA_read_43 ih z_t_greatests z_p0 z_p1_closings z_p1_pairs l3 l4 y_t_greatests y_p1_closings = some r → lv_has ls 6 [(0, .ref q_t), (1, .ref q_p0), (2, .ref q_p1), (3, .int (nI l3)), (4, .int (nI l4))] → va_P (dC, dI) vwCl ((w_PA K q_t q_t_pile q_t_leasts q_t_greatests q_t_former f_t_pile f_t_leasts f_t_greatests f_t_former z_t_pile z_t_leasts y_t_greatests z_t_former) ++ (wArr K 20 q_p0 f_p0 z_p0) ++ (w_WD K q_p1 q_p1_bits q_p1_closings f_p1_bits f_p1_closings z_p1_bits y_p1_closings z_p1_pairs)) H → va_D A ((w_PA K q_t q_t_pile q_t_leasts q_t_greatests q_t_former f_t_pile f_t_leasts f_t_greatests f_t_former z_t_pile z_t_leasts y_t_greatests z_t_former) ++ (wArr K 20 q_p0 f_p0 z_p0) ++ (w_WD K q_p1 q_p1_bits q_p1_closings f_p1_bits f_p1_closings z_p1_bits y_p1_closings z_p1_pairs)) → va_S A s.heap H locs → W p l e (headSpec wc_PA_read rm_PA_read).room s m args below meth c H locs 0 0 Q (F0 m 43 ls []) := by
    intro ih IH l3 l4 y_t_greatests y_p1_closings H locs ls hf hl hP hD hS
    unfold j_PA_read_43 at hf
    refine lx_iinc (k := 4) (d := 1) hx hb dPA_read_43 hl rfl (by decide +kernel) (by decide) rfl (fun ls hl => ?_)
    refine lv_goto (tgt := 8) hx hb dPA_read_46 (by decide) ?_
    have hf := fz_s hf
    exact IH.1 l3 (iA l4 1) y_t_greatests y_p1_closings _ _ _ hf (lv_sub hl [1, 2, 3, 4, 0] rfl) hP hD hS
  have hj_89 : ∀ (ih : Nat → Nat → Nat → Nat → Nat → Option (Nat × Nat)) (IH : (∀ (l3 l4 y_t_greatests y_p1_closings : Nat) (H : Heap) (locs : List Loc) (ls : Array Slot), ih 0 l3 l4 y_t_greatests y_p1_closings = some r → lv_has ls 6 [(0, .ref q_t), (1, .ref q_p0), (2, .ref q_p1), (3, .int (nI l3)), (4, .int (nI l4))] → va_P (dC, dI) vwCl ((w_PA K q_t q_t_pile q_t_leasts q_t_greatests q_t_former f_t_pile f_t_leasts f_t_greatests f_t_former z_t_pile z_t_leasts y_t_greatests z_t_former) ++ (wArr K 20 q_p0 f_p0 z_p0) ++ (w_WD K q_p1 q_p1_bits q_p1_closings f_p1_bits f_p1_closings z_p1_bits y_p1_closings z_p1_pairs)) H → va_D A ((w_PA K q_t q_t_pile q_t_leasts q_t_greatests q_t_former f_t_pile f_t_leasts f_t_greatests f_t_former z_t_pile z_t_leasts y_t_greatests z_t_former) ++ (wArr K 20 q_p0 f_p0 z_p0) ++ (w_WD K q_p1 q_p1_bits q_p1_closings f_p1_bits f_p1_closings z_p1_bits y_p1_closings z_p1_pairs)) → va_S A s.heap H locs → W p l e (headSpec wc_PA_read rm_PA_read).room s m args below meth c H locs 0 0 Q (F0 m 8 ls [])) ∧ (∀ (l3 l4 y_t_greatests y_p1_closings : Nat) (H : Heap) (locs : List Loc) (ls : Array Slot), ih 1 l3 l4 y_t_greatests y_p1_closings = some r → lv_has ls 6 [(0, .ref q_t), (1, .ref q_p0), (2, .ref q_p1), (3, .int (nI l3)), (4, .int (nI l4))] → va_P (dC, dI) vwCl ((w_PA K q_t q_t_pile q_t_leasts q_t_greatests q_t_former f_t_pile f_t_leasts f_t_greatests f_t_former z_t_pile z_t_leasts y_t_greatests z_t_former) ++ (wArr K 20 q_p0 f_p0 z_p0) ++ (w_WD K q_p1 q_p1_bits q_p1_closings f_p1_bits f_p1_closings z_p1_bits y_p1_closings z_p1_pairs)) H → va_D A ((w_PA K q_t q_t_pile q_t_leasts q_t_greatests q_t_former f_t_pile f_t_leasts f_t_greatests f_t_former z_t_pile z_t_leasts y_t_greatests z_t_former) ++ (wArr K 20 q_p0 f_p0 z_p0) ++ (w_WD K q_p1 q_p1_bits q_p1_closings f_p1_bits f_p1_closings z_p1_bits y_p1_closings z_p1_pairs)) → va_S A s.heap H locs → W p l e (headSpec wc_PA_read rm_PA_read).room s m args below meth c H locs 0 0 Q (F0 m 52 ls []))), ∀ (l3 l4 y_t_greatests y_p1_closings : Nat) (H : Heap) (locs : List Loc) (ls : Array Slot), j_PA_read_89 ih z_t_greatests z_p0 z_p1_closings z_p1_pairs l3 l4 y_t_greatests y_p1_closings = some r → lv_has ls 6 [(0, .ref q_t), (1, .ref q_p0), (2, .ref q_p1), (3, .int (nI l3)), (4, .int (nI l4))] → va_P (dC, dI) vwCl ((w_PA K q_t q_t_pile q_t_leasts q_t_greatests q_t_former f_t_pile f_t_leasts f_t_greatests f_t_former z_t_pile z_t_leasts y_t_greatests z_t_former) ++ (wArr K 20 q_p0 f_p0 z_p0) ++ (w_WD K q_p1 q_p1_bits q_p1_closings f_p1_bits f_p1_closings z_p1_bits y_p1_closings z_p1_pairs)) H → va_D A ((w_PA K q_t q_t_pile q_t_leasts q_t_greatests q_t_former f_t_pile f_t_leasts f_t_greatests f_t_former z_t_pile z_t_leasts y_t_greatests z_t_former) ++ (wArr K 20 q_p0 f_p0 z_p0) ++ (w_WD K q_p1 q_p1_bits q_p1_closings f_p1_bits f_p1_closings z_p1_bits y_p1_closings z_p1_pairs)) → va_S A s.heap H locs → W p l e (headSpec wc_PA_read rm_PA_read).room s m args below meth c H locs 0 0 Q (F0 m 89 ls []) := by
    intro ih IH l3 l4 y_t_greatests y_p1_closings H locs ls hf hl hP hD hS
    unfold j_PA_read_89 at hf
    refine lx_iinc (k := 4) (d := 1) hx hb dPA_read_89 hl rfl (by decide +kernel) (by decide) rfl (fun ls hl => ?_)
    refine lv_goto (tgt := 52) hx hb dPA_read_92 (by decide) ?_
    have hf := fz_s hf
    exact IH.2 l3 (iA l4 1) y_t_greatests y_p1_closings _ _ _ hf (lv_sub hl [1, 2, 3, 4, 0] rfl) hP hD hS
  have hb_8 : ∀ (ih : Nat → Nat → Nat → Nat → Nat → Option (Nat × Nat)) (IH : (∀ (l3 l4 y_t_greatests y_p1_closings : Nat) (H : Heap) (locs : List Loc) (ls : Array Slot), ih 0 l3 l4 y_t_greatests y_p1_closings = some r → lv_has ls 6 [(0, .ref q_t), (1, .ref q_p0), (2, .ref q_p1), (3, .int (nI l3)), (4, .int (nI l4))] → va_P (dC, dI) vwCl ((w_PA K q_t q_t_pile q_t_leasts q_t_greatests q_t_former f_t_pile f_t_leasts f_t_greatests f_t_former z_t_pile z_t_leasts y_t_greatests z_t_former) ++ (wArr K 20 q_p0 f_p0 z_p0) ++ (w_WD K q_p1 q_p1_bits q_p1_closings f_p1_bits f_p1_closings z_p1_bits y_p1_closings z_p1_pairs)) H → va_D A ((w_PA K q_t q_t_pile q_t_leasts q_t_greatests q_t_former f_t_pile f_t_leasts f_t_greatests f_t_former z_t_pile z_t_leasts y_t_greatests z_t_former) ++ (wArr K 20 q_p0 f_p0 z_p0) ++ (w_WD K q_p1 q_p1_bits q_p1_closings f_p1_bits f_p1_closings z_p1_bits y_p1_closings z_p1_pairs)) → va_S A s.heap H locs → W p l e (headSpec wc_PA_read rm_PA_read).room s m args below meth c H locs 0 0 Q (F0 m 8 ls [])) ∧ (∀ (l3 l4 y_t_greatests y_p1_closings : Nat) (H : Heap) (locs : List Loc) (ls : Array Slot), ih 1 l3 l4 y_t_greatests y_p1_closings = some r → lv_has ls 6 [(0, .ref q_t), (1, .ref q_p0), (2, .ref q_p1), (3, .int (nI l3)), (4, .int (nI l4))] → va_P (dC, dI) vwCl ((w_PA K q_t q_t_pile q_t_leasts q_t_greatests q_t_former f_t_pile f_t_leasts f_t_greatests f_t_former z_t_pile z_t_leasts y_t_greatests z_t_former) ++ (wArr K 20 q_p0 f_p0 z_p0) ++ (w_WD K q_p1 q_p1_bits q_p1_closings f_p1_bits f_p1_closings z_p1_bits y_p1_closings z_p1_pairs)) H → va_D A ((w_PA K q_t q_t_pile q_t_leasts q_t_greatests q_t_former f_t_pile f_t_leasts f_t_greatests f_t_former z_t_pile z_t_leasts y_t_greatests z_t_former) ++ (wArr K 20 q_p0 f_p0 z_p0) ++ (w_WD K q_p1 q_p1_bits q_p1_closings f_p1_bits f_p1_closings z_p1_bits y_p1_closings z_p1_pairs)) → va_S A s.heap H locs → W p l e (headSpec wc_PA_read rm_PA_read).room s m args below meth c H locs 0 0 Q (F0 m 52 ls []))), ∀ (l3 l4 y_t_greatests y_p1_closings : Nat) (H : Heap) (locs : List Loc) (ls : Array Slot), b_PA_read_8 ih z_t_greatests z_p0 z_p1_closings z_p1_pairs l3 l4 y_t_greatests y_p1_closings = some r → lv_has ls 6 [(0, .ref q_t), (1, .ref q_p0), (2, .ref q_p1), (3, .int (nI l3)), (4, .int (nI l4))] → va_P (dC, dI) vwCl ((w_PA K q_t q_t_pile q_t_leasts q_t_greatests q_t_former f_t_pile f_t_leasts f_t_greatests f_t_former z_t_pile z_t_leasts y_t_greatests z_t_former) ++ (wArr K 20 q_p0 f_p0 z_p0) ++ (w_WD K q_p1 q_p1_bits q_p1_closings f_p1_bits f_p1_closings z_p1_bits y_p1_closings z_p1_pairs)) H → va_D A ((w_PA K q_t q_t_pile q_t_leasts q_t_greatests q_t_former f_t_pile f_t_leasts f_t_greatests f_t_former z_t_pile z_t_leasts y_t_greatests z_t_former) ++ (wArr K 20 q_p0 f_p0 z_p0) ++ (w_WD K q_p1 q_p1_bits q_p1_closings f_p1_bits f_p1_closings z_p1_bits y_p1_closings z_p1_pairs)) → va_S A s.heap H locs → W p l e (headSpec wc_PA_read rm_PA_read).room s m args below meth c H locs 0 0 Q (F0 m 8 ls []) := by
    intro ih IH l3 l4 y_t_greatests y_p1_closings H locs ls hf hl hP hD hS
    unfold b_PA_read_8 at hf
    refine lv_iload hx hb dPA_read_8 (lv_at hl 4 rfl) ?_
    refine lv_iload_n hx hb dPA_read_10 rfl (lv_at hl 3 rfl) ?_
    refine lx_icmp_gt (tgt := 49) hx hb dPA_read_11 (by decide) hf (fun hf => ?_) (fun hf => ?_)
    · refine lv_iconst (v := nI 1) hx hb dPA_read_49 (by decide +kernel) ?_
      refine lv_istore hx hb dPA_read_50 hl (by decide) rfl (fun ls hl => ?_)
      exact IH.2 l3 1 y_t_greatests y_p1_closings _ _ _ hf (lv_sub hl [1, 2, 3, 4, 0] rfl) hP hD hS
    · refine lv_aload_n hx hb dPA_read_14 rfl (lv_at hl 1 rfl) ?_
      refine lv_iload hx hb dPA_read_15 (lv_at hl 4 rfl) ?_
      refine lv_iconst (v := nI 1) hx hb dPA_read_17 (by decide +kernel) ?_
      refine lx_isub hx hb dPA_read_18 ?_
      refine lx_iald hx hb hK hP 5 0 rfl rfl (by decide) dPA_read_19 hf (fun v2 _ hf => ?_)
      refine lv_istore hx hb dPA_read_20 hl (by decide) rfl (fun ls hl => ?_)
      refine lv_iload hx hb dPA_read_22 (lv_at hl 0 rfl) ?_
      refine lv_iconst (v := nI 1) hx hb dPA_read_24 (by decide +kernel) ?_
      refine lx_icmp_lt (tgt := 43) hx hb dPA_read_25 (by decide) hf (fun hf => ?_) (fun hf => ?_)
      · exact hj_43 _ IH l3 l4 y_t_greatests y_p1_closings _ _ _ hf (lv_sub hl [1, 2, 3, 4, 5] rfl) hP hD hS
      · refine lv_iload hx hb dPA_read_28 (lv_at hl 0 rfl) ?_
        refine lv_iload_n hx hb dPA_read_30 rfl (lv_at hl 4 rfl) ?_
        refine lx_icmp_gt (tgt := 43) hx hb dPA_read_31 (by decide) hf (fun hf => ?_) (fun hf => ?_)
        · exact hj_43 _ IH l3 l4 y_t_greatests y_p1_closings _ _ _ hf (lv_sub hl [1, 2, 3, 4, 5] rfl) hP hD hS
        · refine lv_aload_n hx hb dPA_read_34 rfl (lv_at hl 1 rfl) ?_
          refine va_get (D := (dC, dI)) (ci := 4) (v := .ref q_t_greatests) (C := RPA) (T := TPA) (N := 4) hx hb hws uwPA hown hK hP 0 rfl rfl 2 (by decide) (hws _ kf_PA_18) (fun _ h9 => h9) rfl dPA_read_35 ?_
          refine lv_iload hx hb dPA_read_38 (lv_at hl 0 rfl) ?_
          refine lv_iload hx hb dPA_read_40 (lv_at hl 5 rfl) ?_
          refine lx_iast hx hb hK hP hD hS 3 0 rfl rfl (by decide) dPA_read_42 hf (fun hf H locs hP hD hS => ?_)
          have hP : va_P (dC, dI) vwCl ((w_PA K q_t q_t_pile q_t_leasts q_t_greatests q_t_former f_t_pile f_t_leasts f_t_greatests f_t_former z_t_pile z_t_leasts (aw y_t_greatests v2 l4) z_t_former) ++ (wArr K 20 q_p0 f_p0 z_p0) ++ (w_WD K q_p1 q_p1_bits q_p1_closings f_p1_bits f_p1_closings z_p1_bits y_p1_closings z_p1_pairs)) H := hP
          have hD : va_D A ((w_PA K q_t q_t_pile q_t_leasts q_t_greatests q_t_former f_t_pile f_t_leasts f_t_greatests f_t_former z_t_pile z_t_leasts (aw y_t_greatests v2 l4) z_t_former) ++ (wArr K 20 q_p0 f_p0 z_p0) ++ (w_WD K q_p1 q_p1_bits q_p1_closings f_p1_bits f_p1_closings z_p1_bits y_p1_closings z_p1_pairs)) := hD
          have hf := fz_s hf
          exact hj_43 _ IH l3 l4 (aw y_t_greatests v2 l4) y_p1_closings _ _ _ hf (lv_sub hl [1, 2, 3, 4, 5] rfl) hP hD hS
  have hb_52 : ∀ (ih : Nat → Nat → Nat → Nat → Nat → Option (Nat × Nat)) (IH : (∀ (l3 l4 y_t_greatests y_p1_closings : Nat) (H : Heap) (locs : List Loc) (ls : Array Slot), ih 0 l3 l4 y_t_greatests y_p1_closings = some r → lv_has ls 6 [(0, .ref q_t), (1, .ref q_p0), (2, .ref q_p1), (3, .int (nI l3)), (4, .int (nI l4))] → va_P (dC, dI) vwCl ((w_PA K q_t q_t_pile q_t_leasts q_t_greatests q_t_former f_t_pile f_t_leasts f_t_greatests f_t_former z_t_pile z_t_leasts y_t_greatests z_t_former) ++ (wArr K 20 q_p0 f_p0 z_p0) ++ (w_WD K q_p1 q_p1_bits q_p1_closings f_p1_bits f_p1_closings z_p1_bits y_p1_closings z_p1_pairs)) H → va_D A ((w_PA K q_t q_t_pile q_t_leasts q_t_greatests q_t_former f_t_pile f_t_leasts f_t_greatests f_t_former z_t_pile z_t_leasts y_t_greatests z_t_former) ++ (wArr K 20 q_p0 f_p0 z_p0) ++ (w_WD K q_p1 q_p1_bits q_p1_closings f_p1_bits f_p1_closings z_p1_bits y_p1_closings z_p1_pairs)) → va_S A s.heap H locs → W p l e (headSpec wc_PA_read rm_PA_read).room s m args below meth c H locs 0 0 Q (F0 m 8 ls [])) ∧ (∀ (l3 l4 y_t_greatests y_p1_closings : Nat) (H : Heap) (locs : List Loc) (ls : Array Slot), ih 1 l3 l4 y_t_greatests y_p1_closings = some r → lv_has ls 6 [(0, .ref q_t), (1, .ref q_p0), (2, .ref q_p1), (3, .int (nI l3)), (4, .int (nI l4))] → va_P (dC, dI) vwCl ((w_PA K q_t q_t_pile q_t_leasts q_t_greatests q_t_former f_t_pile f_t_leasts f_t_greatests f_t_former z_t_pile z_t_leasts y_t_greatests z_t_former) ++ (wArr K 20 q_p0 f_p0 z_p0) ++ (w_WD K q_p1 q_p1_bits q_p1_closings f_p1_bits f_p1_closings z_p1_bits y_p1_closings z_p1_pairs)) H → va_D A ((w_PA K q_t q_t_pile q_t_leasts q_t_greatests q_t_former f_t_pile f_t_leasts f_t_greatests f_t_former z_t_pile z_t_leasts y_t_greatests z_t_former) ++ (wArr K 20 q_p0 f_p0 z_p0) ++ (w_WD K q_p1 q_p1_bits q_p1_closings f_p1_bits f_p1_closings z_p1_bits y_p1_closings z_p1_pairs)) → va_S A s.heap H locs → W p l e (headSpec wc_PA_read rm_PA_read).room s m args below meth c H locs 0 0 Q (F0 m 52 ls []))), ∀ (l3 l4 y_t_greatests y_p1_closings : Nat) (H : Heap) (locs : List Loc) (ls : Array Slot), b_PA_read_52 ih z_t_greatests z_p0 z_p1_closings z_p1_pairs l3 l4 y_t_greatests y_p1_closings = some r → lv_has ls 6 [(0, .ref q_t), (1, .ref q_p0), (2, .ref q_p1), (3, .int (nI l3)), (4, .int (nI l4))] → va_P (dC, dI) vwCl ((w_PA K q_t q_t_pile q_t_leasts q_t_greatests q_t_former f_t_pile f_t_leasts f_t_greatests f_t_former z_t_pile z_t_leasts y_t_greatests z_t_former) ++ (wArr K 20 q_p0 f_p0 z_p0) ++ (w_WD K q_p1 q_p1_bits q_p1_closings f_p1_bits f_p1_closings z_p1_bits y_p1_closings z_p1_pairs)) H → va_D A ((w_PA K q_t q_t_pile q_t_leasts q_t_greatests q_t_former f_t_pile f_t_leasts f_t_greatests f_t_former z_t_pile z_t_leasts y_t_greatests z_t_former) ++ (wArr K 20 q_p0 f_p0 z_p0) ++ (w_WD K q_p1 q_p1_bits q_p1_closings f_p1_bits f_p1_closings z_p1_bits y_p1_closings z_p1_pairs)) → va_S A s.heap H locs → W p l e (headSpec wc_PA_read rm_PA_read).room s m args below meth c H locs 0 0 Q (F0 m 52 ls []) := by
    intro ih IH l3 l4 y_t_greatests y_p1_closings H locs ls hf hl hP hD hS
    unfold b_PA_read_52 at hf
    refine lv_iload hx hb dPA_read_52 (lv_at hl 4 rfl) ?_
    refine lv_iload_n hx hb dPA_read_54 rfl (lv_at hl 3 rfl) ?_
    refine lx_icmp_gt (tgt := 95) hx hb dPA_read_55 (by decide) hf (fun hf => ?_) (fun hf => ?_)
    · obtain rfl := Option.some.inj hf
      rw [← hQ]
      exact W.vret hx hb hr (fun t ht hW => ⟨⟨rfl, by rw [ht]; exact hP⟩, hS.F ht⟩) hS.2.2 dPA_read_95
    · refine lv_aload_n hx hb dPA_read_58 rfl (lv_at hl 1 rfl) ?_
      refine lv_iload hx hb dPA_read_59 (lv_at hl 4 rfl) ?_
      refine lv_iconst (v := nI 1) hx hb dPA_read_61 (by decide +kernel) ?_
      refine lx_isub hx hb dPA_read_62 ?_
      refine lx_iald hx hb hK hP 5 0 rfl rfl (by decide) dPA_read_63 hf (fun v4 _ hf => ?_)
      refine lv_istore hx hb dPA_read_64 hl (by decide) rfl (fun ls hl => ?_)
      refine lv_iload hx hb dPA_read_66 (lv_at hl 0 rfl) ?_
      refine lv_iconst (v := nI 1) hx hb dPA_read_68 (by decide +kernel) ?_
      refine lx_icmp_lt (tgt := 89) hx hb dPA_read_69 (by decide) hf (fun hf => ?_) (fun hf => ?_)
      · exact hj_89 _ IH l3 l4 y_t_greatests y_p1_closings _ _ _ hf (lv_sub hl [1, 2, 3, 4, 5] rfl) hP hD hS
      · refine lv_iload hx hb dPA_read_72 (lv_at hl 0 rfl) ?_
        refine lv_iload_n hx hb dPA_read_74 rfl (lv_at hl 4 rfl) ?_
        refine lx_icmp_gt (tgt := 89) hx hb dPA_read_75 (by decide) hf (fun hf => ?_) (fun hf => ?_)
        · exact hj_89 _ IH l3 l4 y_t_greatests y_p1_closings _ _ _ hf (lv_sub hl [1, 2, 3, 4, 5] rfl) hP hD hS
        · refine lv_aload_n hx hb dPA_read_78 rfl (lv_at hl 3 rfl) ?_
          refine lv_aload_n hx hb dPA_read_79 rfl (lv_at hl 1 rfl) ?_
          refine va_get (D := (dC, dI)) (ci := 4) (v := .ref q_t_greatests) (C := RPA) (T := TPA) (N := 4) hx hb hws uwPA hown hK hP 0 rfl rfl 2 (by decide) (hws _ kf_PA_18) (fun _ h9 => h9) rfl dPA_read_80 ?_
          refine lv_iload hx hb dPA_read_83 (lv_at hl 0 rfl) ?_
          refine lx_iald hx hb hK hP 3 0 rfl rfl (by decide) dPA_read_85 hf (fun v5 _ hf => ?_)
          obtain ⟨q6, hq, hf⟩ := bd_s hf
          refine ct_callv (ws' := (w_PA K q_t q_t_pile q_t_leasts q_t_greatests q_t_former f_t_pile f_t_leasts f_t_greatests f_t_former z_t_pile z_t_leasts y_t_greatests z_t_former) ++ (wArr K 20 q_p0 f_p0 z_p0) ++ (w_WD K q_p1 q_p1_bits q_p1_closings f_p1_bits f_p1_closings z_p1_bits q6 z_p1_pairs)) (va_runV (As := [.int (nI v5)]) (rest := []) ⟨hx, hb, hml, hown, hws⟩ (ct_WD_closeAfter l dC dI K q_p1 q_p1_bits q_p1_closings f_p1_bits f_p1_closings v5 z_p1_bits y_p1_closings z_p1_pairs q6 hq _) ⟨cb_WD_closeAfter hws rm_WD_closeAfter (hws _ km_PA_34) ⟨Nat.le_of_ble_eq_true rfl, Nat.le_of_ble_eq_true rfl⟩, hws _ ki_WD_closeAfter, hws _ ke_WD_WD_closeAfter_WD_closeAfter⟩ ⟨ct_blind _ _ _, va_recv (ci := 8) (q0 := 6) (q := (RWD, TWD, 3)) hK hP rfl rfl, ct_pre (cs := (w_WD K q_p1 q_p1_bits q_p1_closings f_p1_bits f_p1_closings z_p1_bits y_p1_closings z_p1_pairs)) hP hD hK [6, 7, 8] (by decide) rfl _⟩ rfl rfl hl.1 rfl (lv_room (Nat.le_of_ble_eq_true rfl)) dPA_read_86 ⟨Nat.le_of_ble_eq_true rfl, Nat.le_of_ble_eq_true rfl⟩) hP hD hS hA [6, 7, 8] rfl rfl rfl rfl (fun H locs hP hD hS => ?_)
          have hP : va_P (dC, dI) vwCl ((w_PA K q_t q_t_pile q_t_leasts q_t_greatests q_t_former f_t_pile f_t_leasts f_t_greatests f_t_former z_t_pile z_t_leasts y_t_greatests z_t_former) ++ (wArr K 20 q_p0 f_p0 z_p0) ++ (w_WD K q_p1 q_p1_bits q_p1_closings f_p1_bits f_p1_closings z_p1_bits q6 z_p1_pairs)) H := hP
          have hD : va_D A ((w_PA K q_t q_t_pile q_t_leasts q_t_greatests q_t_former f_t_pile f_t_leasts f_t_greatests f_t_former z_t_pile z_t_leasts y_t_greatests z_t_former) ++ (wArr K 20 q_p0 f_p0 z_p0) ++ (w_WD K q_p1 q_p1_bits q_p1_closings f_p1_bits f_p1_closings z_p1_bits q6 z_p1_pairs)) := hD
          exact hj_89 _ IH l3 l4 y_t_greatests q6 _ _ _ hf (lv_sub hl [1, 2, 3, 4, 5] rfl) hP hD hS
  have key : ∀ k : Nat, (∀ (l3 l4 y_t_greatests y_p1_closings : Nat) (H : Heap) (locs : List Loc) (ls : Array Slot), fr_PA_read z_t_greatests z_p0 z_p1_closings z_p1_pairs k 0 l3 l4 y_t_greatests y_p1_closings = some r → lv_has ls 6 [(0, .ref q_t), (1, .ref q_p0), (2, .ref q_p1), (3, .int (nI l3)), (4, .int (nI l4))] → va_P (dC, dI) vwCl ((w_PA K q_t q_t_pile q_t_leasts q_t_greatests q_t_former f_t_pile f_t_leasts f_t_greatests f_t_former z_t_pile z_t_leasts y_t_greatests z_t_former) ++ (wArr K 20 q_p0 f_p0 z_p0) ++ (w_WD K q_p1 q_p1_bits q_p1_closings f_p1_bits f_p1_closings z_p1_bits y_p1_closings z_p1_pairs)) H → va_D A ((w_PA K q_t q_t_pile q_t_leasts q_t_greatests q_t_former f_t_pile f_t_leasts f_t_greatests f_t_former z_t_pile z_t_leasts y_t_greatests z_t_former) ++ (wArr K 20 q_p0 f_p0 z_p0) ++ (w_WD K q_p1 q_p1_bits q_p1_closings f_p1_bits f_p1_closings z_p1_bits y_p1_closings z_p1_pairs)) → va_S A s.heap H locs → W p l e (headSpec wc_PA_read rm_PA_read).room s m args below meth c H locs 0 0 Q (F0 m 8 ls [])) ∧ (∀ (l3 l4 y_t_greatests y_p1_closings : Nat) (H : Heap) (locs : List Loc) (ls : Array Slot), fr_PA_read z_t_greatests z_p0 z_p1_closings z_p1_pairs k 1 l3 l4 y_t_greatests y_p1_closings = some r → lv_has ls 6 [(0, .ref q_t), (1, .ref q_p0), (2, .ref q_p1), (3, .int (nI l3)), (4, .int (nI l4))] → va_P (dC, dI) vwCl ((w_PA K q_t q_t_pile q_t_leasts q_t_greatests q_t_former f_t_pile f_t_leasts f_t_greatests f_t_former z_t_pile z_t_leasts y_t_greatests z_t_former) ++ (wArr K 20 q_p0 f_p0 z_p0) ++ (w_WD K q_p1 q_p1_bits q_p1_closings f_p1_bits f_p1_closings z_p1_bits y_p1_closings z_p1_pairs)) H → va_D A ((w_PA K q_t q_t_pile q_t_leasts q_t_greatests q_t_former f_t_pile f_t_leasts f_t_greatests f_t_former z_t_pile z_t_leasts y_t_greatests z_t_former) ++ (wArr K 20 q_p0 f_p0 z_p0) ++ (w_WD K q_p1 q_p1_bits q_p1_closings f_p1_bits f_p1_closings z_p1_bits y_p1_closings z_p1_pairs)) → va_S A s.heap H locs → W p l e (headSpec wc_PA_read rm_PA_read).room s m args below meth c H locs 0 0 Q (F0 m 52 ls [])) := by
    intro k
    induction k with
    | zero => exact ⟨fun l3 l4 y_t_greatests y_p1_closings H locs ls hf _ _ _ _ => no_s (α := Nat × Nat) (r := r) hf, fun l3 l4 y_t_greatests y_p1_closings H locs ls hf _ _ _ _ => no_s (α := Nat × Nat) (r := r) hf⟩
    | succ k IH => exact ⟨fun l3 l4 y_t_greatests y_p1_closings H locs ls hf => hb_8 (fr_PA_read z_t_greatests z_p0 z_p1_closings z_p1_pairs k) IH l3 l4 y_t_greatests y_p1_closings H locs ls ((frs_PA_read_8 z_t_greatests z_p0 z_p1_closings z_p1_pairs k l3 l4 y_t_greatests y_p1_closings).symm.trans hf), fun l3 l4 y_t_greatests y_p1_closings H locs ls hf => hb_52 (fr_PA_read z_t_greatests z_p0 z_p1_closings z_p1_pairs k) IH l3 l4 y_t_greatests y_p1_closings H locs ls ((frs_PA_read_52 z_t_greatests z_p0 z_p1_closings z_p1_pairs k l3 l4 y_t_greatests y_p1_closings).symm.trans hf)⟩
  have IH := key 1000000
  have hf : e_PA_read (fr_PA_read z_t_greatests z_p0 z_p1_closings z_p1_pairs 1000000) z_t_greatests z_p0 z_p1_closings z_p1_pairs = some r := hf
  unfold e_PA_read at hf
  generalize fr_PA_read z_t_greatests z_p0 z_p1_closings z_p1_pairs 1000000 = ih at hf IH
  refine lv_aload_n hx hb dPA_read_0 rfl (lv_at hl 2 rfl) ?_
  obtain ⟨q1, hq, hf⟩ := bd_s hf
  refine ct_callr (ws' := (w_PA K q_t q_t_pile q_t_leasts q_t_greatests q_t_former f_t_pile f_t_leasts f_t_greatests f_t_former z_t_pile z_t_leasts z_t_greatests z_t_former) ++ (wArr K 20 q_p0 f_p0 z_p0) ++ (w_WD K q_p1 q_p1_bits q_p1_closings f_p1_bits f_p1_closings z_p1_bits z_p1_closings z_p1_pairs)) (va_runV (As := []) (rest := []) ⟨hx, hb, hml, hown, hws⟩ (ct_WD_pairs l dC dI K q_p1 q_p1_bits q_p1_closings f_p1_bits f_p1_closings z_p1_bits z_p1_closings z_p1_pairs q1 hq _) ⟨cb_WD_pairs hws rm_WD_pairs (hws _ km_PA_24) ⟨Nat.le_of_ble_eq_true rfl, Nat.le_of_ble_eq_true rfl⟩, hws _ ki_WD_pairs, hws _ ke_WD_WD_pairs_WD_pairs⟩ ⟨ct_blind _ _ _, va_recv (ci := 8) (q0 := 6) (q := (RWD, TWD, 3)) hK hP rfl rfl, ct_pre (cs := (w_WD K q_p1 q_p1_bits q_p1_closings f_p1_bits f_p1_closings z_p1_bits z_p1_closings z_p1_pairs)) hP hD hK [6, 7, 8] (by decide) rfl _⟩ rfl rfl hl.1 rfl (lv_room (Nat.le_of_ble_eq_true rfl)) dPA_read_1 ⟨Nat.le_of_ble_eq_true rfl, Nat.le_of_ble_eq_true rfl⟩) hP hD hS hA [6, 7, 8] rfl rfl rfl rfl (fun H locs hP hD hS => ?_)
  refine lv_istore_n hx hb dPA_read_4 rfl hl (by decide) rfl (fun ls hl => ?_)
  refine lv_iconst (v := nI 1) hx hb dPA_read_5 (by decide +kernel) ?_
  refine lv_istore hx hb dPA_read_6 hl (by decide) rfl (fun ls hl => ?_)
  exact IH.1 q1 1 z_t_greatests z_p1_closings _ _ _ hf (lv_sub hl [2, 3, 4, 1, 0] rfl) hP hD hS
noncomputable def b_PA_next_4 (ih : Nat → Nat → Nat → Option (Nat)) (x0 : Nat) (x1 : Nat) (z_t_leasts : Nat) (l1 : Nat) (l2 : Nat) (l3 : Nat) : Option (Nat) := (bif iLt l2 l3 then (rd z_t_leasts 9 (iS l1 1) (fun v2 => some v2)) else (rd z_t_leasts 9 (iS l3 1) (fun v3 => (rd z_t_leasts 9 (iS l1 1) (fun v4 => (bif iEq v3 v4 then some l3 else (fz (iA l3 1) (fun u5 => ih l1 l2 u5))))))))
noncomputable def fr_PA_next (x0 : Nat) (x1 : Nat) (z_t_leasts : Nat) (k : Nat) : Nat → Nat → Nat → Option (Nat) := Nat.rec (motive := fun _ => Nat → Nat → Nat → Option (Nat)) (fun _ _ _ => none) (fun _ ih a0 a1 a2 => b_PA_next_4 ih x0 x1 z_t_leasts a0 a1 a2) k
theorem frs_PA_next_4 (x0 : Nat) (x1 : Nat) (z_t_leasts : Nat) (k : Nat) (l1 : Nat) (l2 : Nat) (l3 : Nat) : fr_PA_next x0 x1 z_t_leasts (k + 1) l1 l2 l3 = b_PA_next_4 (fr_PA_next x0 x1 z_t_leasts k) x0 x1 z_t_leasts l1 l2 l3 := rfl
noncomputable def e_PA_next (ih : Nat → Nat → Nat → Option (Nat)) (x0 : Nat) (x1 : Nat) (z_t_leasts : Nat) : Option (Nat) := (fz (iA x0 1) (fun u1 => ih x0 x1 u1))
noncomputable def f_PA_next (x0 : Nat) (x1 : Nat) (z_t_leasts : Nat) : Option (Nat) := e_PA_next (fr_PA_next x0 x1 z_t_leasts 1000000) x0 x1 z_t_leasts
abbrev rm_PA_next : Room := { frames := 0, cells := 0, slots := 0, locals := 0 }
set_option maxHeartbeats 4000000 in
set_option maxRecDepth 100000 in
theorem ct_PA_next (l : Launch) (dC : Nat → ClassId) (dI : Nat → Nat → Nat) (K : Nat → ClassId) (q_t : Nat) (q_t_pile : Nat) (q_t_leasts : Nat) (q_t_greatests : Nat) (q_t_former : Nat) (f_t_pile : Nat → Int32) (f_t_leasts : Nat → Int32) (f_t_greatests : Nat → Int32) (f_t_former : Nat → Int32) (x0 : Nat) (x1 : Nat) (z_t_pile : Nat) (z_t_leasts : Nat) (z_t_greatests : Nat) (z_t_former : Nat) (r : Nat) (hf : f_PA_next x0 x1 z_t_leasts = some r) : Ct l (dC, dI) vwCl yPA_next wc_PA_next rm_PA_next (tyK K) [.ref q_t, .int (nI x0), .int (nI x1)] (w_PA K q_t q_t_pile q_t_leasts q_t_greatests q_t_former f_t_pile f_t_leasts f_t_greatests f_t_former z_t_pile z_t_leasts z_t_greatests z_t_former) (w_PA K q_t q_t_pile q_t_leasts q_t_greatests q_t_former f_t_pile f_t_leasts f_t_greatests f_t_former z_t_pile z_t_leasts z_t_greatests z_t_former) (some (.int (nI r))) := by
  intro sz
  refine Met.ofW (cc := cPA_next) (maxL := 4) (ret := (some .int)) (by decide) rfl ?_
  intro p e s m args below meth c s₁ B hml hv
  obtain ⟨rfl, hsz, hP, hK, hD0⟩ := hv
  have hx := B.exec
  have hb := B.bytes
  have hr := B.returns
  have hts := atoms_spec (ws := wc_PA_next) B.pre
  have hws : ∀ w ∈ WS, w.before _ s = true := fun w h => hts w (List.mem_cons_of_mem _ h)
  have hown : s.vm.findClass RPA = some m.cls := findClass_of_methodNamed B.named
  have hlocks := B.notSynchronized
  subst hsz
  have hD := hD0.self (sz := s.heap.size)
  generalize hAe : va_A (w_PA K q_t q_t_pile q_t_leasts q_t_greatests q_t_former f_t_pile f_t_leasts f_t_greatests f_t_former z_t_pile z_t_leasts z_t_greatests z_t_former) s.heap.size = A at hD ⊢
  have hA : ∀ q : Nat, s.heap.size ≤ q → A q := fun q h => by rw [← hAe]; exact Or.inr h
  have hS : va_S A s.heap s.heap [] := va_S.rf
  have hl := lv_entry ([.ref q_t, .int (nI x0), .int (nI x1)]) (n := 4) (Nat.le_of_ble_eq_true rfl)
  rw [lg_entry_eq]
  generalize (lg_sl ([.ref q_t, .int (nI x0), .int (nI x1)]) ++ List.replicate (4 - (lg_sl ([.ref q_t, .int (nI x0), .int (nI x1)])).length) Slot.unset).toArray = ls at hl ⊢
  have hl : lv_has ls 4 [(0, .ref q_t), (1, .int (nI x0)), (2, .int (nI x1))] := hl
  generalize ([.ref q_t, .int (nI x0), .int (nI x1)] : List Value).toArray = args at hts hws ⊢
  generalize hQ : MQ below _ _ _ _ _ _ = Q
  have hb_4 : ∀ (ih : Nat → Nat → Nat → Option (Nat)) (IH : (∀ (l1 l2 l3 : Nat) (H : Heap) (locs : List Loc) (ls : Array Slot), ih l1 l2 l3 = some r → lv_has ls 4 [(0, .ref q_t), (1, .int (nI l1)), (2, .int (nI l2)), (3, .int (nI l3))] → va_P (dC, dI) vwCl (w_PA K q_t q_t_pile q_t_leasts q_t_greatests q_t_former f_t_pile f_t_leasts f_t_greatests f_t_former z_t_pile z_t_leasts z_t_greatests z_t_former) H → va_D A (w_PA K q_t q_t_pile q_t_leasts q_t_greatests q_t_former f_t_pile f_t_leasts f_t_greatests f_t_former z_t_pile z_t_leasts z_t_greatests z_t_former) → va_S A s.heap H locs → W p l e (headSpec wc_PA_next rm_PA_next).room s m args below meth c H locs 0 0 Q (F0 m 4 ls []))), ∀ (l1 l2 l3 : Nat) (H : Heap) (locs : List Loc) (ls : Array Slot), b_PA_next_4 ih x0 x1 z_t_leasts l1 l2 l3 = some r → lv_has ls 4 [(0, .ref q_t), (1, .int (nI l1)), (2, .int (nI l2)), (3, .int (nI l3))] → va_P (dC, dI) vwCl (w_PA K q_t q_t_pile q_t_leasts q_t_greatests q_t_former f_t_pile f_t_leasts f_t_greatests f_t_former z_t_pile z_t_leasts z_t_greatests z_t_former) H → va_D A (w_PA K q_t q_t_pile q_t_leasts q_t_greatests q_t_former f_t_pile f_t_leasts f_t_greatests f_t_former z_t_pile z_t_leasts z_t_greatests z_t_former) → va_S A s.heap H locs → W p l e (headSpec wc_PA_next rm_PA_next).room s m args below meth c H locs 0 0 Q (F0 m 4 ls []) := by
    intro ih IH l1 l2 l3 H locs ls hf hl hP hD hS
    unfold b_PA_next_4 at hf
    refine lv_iload_n hx hb dPA_next_4 rfl (lv_at hl 3 rfl) ?_
    refine lv_iload_n hx hb dPA_next_5 rfl (lv_at hl 2 rfl) ?_
    refine lx_icmp_gt (tgt := 36) hx hb dPA_next_6 (by decide) hf (fun hf => ?_) (fun hf => ?_)
    · refine lv_aload_n hx hb dPA_next_36 rfl (lv_at hl 0 rfl) ?_
      refine va_get (D := (dC, dI)) (ci := 4) (v := .ref q_t_leasts) (C := RPA) (T := TPA) (N := 4) hx hb hws uwPA hown hK hP 0 rfl rfl 1 (by decide) (hws _ kf_PA_15) (fun _ h9 => h9) rfl dPA_next_37 ?_
      refine lv_iload_n hx hb dPA_next_40 rfl (lv_at hl 1 rfl) ?_
      refine lv_iconst (v := nI 1) hx hb dPA_next_41 (by decide +kernel) ?_
      refine lx_isub hx hb dPA_next_42 ?_
      refine lx_iald hx hb hK hP 2 0 rfl rfl (by decide) dPA_next_43 hf (fun v2 _ hf => ?_)
      obtain rfl := Option.some.inj hf
      rw [← hQ]
      exact W.iret (v := nI v2) hx hb hr (fun t ht hW => ⟨⟨rfl, by rw [ht]; exact hP⟩, hS.F ht⟩) hS.2.2 dPA_next_44
    · refine lv_aload_n hx hb dPA_next_9 rfl (lv_at hl 0 rfl) ?_
      refine va_get (D := (dC, dI)) (ci := 4) (v := .ref q_t_leasts) (C := RPA) (T := TPA) (N := 4) hx hb hws uwPA hown hK hP 0 rfl rfl 1 (by decide) (hws _ kf_PA_15) (fun _ h9 => h9) rfl dPA_next_10 ?_
      refine lv_iload_n hx hb dPA_next_13 rfl (lv_at hl 3 rfl) ?_
      refine lv_iconst (v := nI 1) hx hb dPA_next_14 (by decide +kernel) ?_
      refine lx_isub hx hb dPA_next_15 ?_
      refine lx_iald hx hb hK hP 2 0 rfl rfl (by decide) dPA_next_16 hf (fun v3 _ hf => ?_)
      refine lv_aload_n hx hb dPA_next_17 rfl (lv_at hl 0 rfl) ?_
      refine va_get (D := (dC, dI)) (ci := 4) (v := .ref q_t_leasts) (C := RPA) (T := TPA) (N := 4) hx hb hws uwPA hown hK hP 0 rfl rfl 1 (by decide) (hws _ kf_PA_15) (fun _ h9 => h9) rfl dPA_next_18 ?_
      refine lv_iload_n hx hb dPA_next_21 rfl (lv_at hl 1 rfl) ?_
      refine lv_iconst (v := nI 1) hx hb dPA_next_22 (by decide +kernel) ?_
      refine lx_isub hx hb dPA_next_23 ?_
      refine lx_iald hx hb hK hP 2 0 rfl rfl (by decide) dPA_next_24 hf (fun v4 _ hf => ?_)
      refine lx_icmp_ne (tgt := 30) hx hb dPA_next_25 (by decide) hf (fun hf => ?_) (fun hf => ?_)
      · refine lx_iinc (k := 3) (d := 1) hx hb dPA_next_30 hl rfl (by decide +kernel) (by decide) rfl (fun ls hl => ?_)
        refine lv_goto (tgt := 4) hx hb dPA_next_33 (by decide) ?_
        have hf := fz_s hf
        exact IH l1 l2 (iA l3 1) _ _ _ hf (lv_sub hl [1, 2, 3, 0] rfl) hP hD hS
      · refine lv_iload_n hx hb dPA_next_28 rfl (lv_at hl 3 rfl) ?_
        obtain rfl := Option.some.inj hf
        rw [← hQ]
        exact W.iret (v := nI l3) hx hb hr (fun t ht hW => ⟨⟨rfl, by rw [ht]; exact hP⟩, hS.F ht⟩) hS.2.2 dPA_next_29
  have key : ∀ k : Nat, (∀ (l1 l2 l3 : Nat) (H : Heap) (locs : List Loc) (ls : Array Slot), fr_PA_next x0 x1 z_t_leasts k l1 l2 l3 = some r → lv_has ls 4 [(0, .ref q_t), (1, .int (nI l1)), (2, .int (nI l2)), (3, .int (nI l3))] → va_P (dC, dI) vwCl (w_PA K q_t q_t_pile q_t_leasts q_t_greatests q_t_former f_t_pile f_t_leasts f_t_greatests f_t_former z_t_pile z_t_leasts z_t_greatests z_t_former) H → va_D A (w_PA K q_t q_t_pile q_t_leasts q_t_greatests q_t_former f_t_pile f_t_leasts f_t_greatests f_t_former z_t_pile z_t_leasts z_t_greatests z_t_former) → va_S A s.heap H locs → W p l e (headSpec wc_PA_next rm_PA_next).room s m args below meth c H locs 0 0 Q (F0 m 4 ls [])) := by
    intro k
    induction k with
    | zero => exact fun l1 l2 l3 H locs ls hf _ _ _ _ => no_s (α := Nat) (r := r) hf
    | succ k IH => exact fun l1 l2 l3 H locs ls hf => hb_4 (fr_PA_next x0 x1 z_t_leasts k) IH l1 l2 l3 H locs ls ((frs_PA_next_4 x0 x1 z_t_leasts k l1 l2 l3).symm.trans hf)
  have IH := key 1000000
  have hf : e_PA_next (fr_PA_next x0 x1 z_t_leasts 1000000) x0 x1 z_t_leasts = some r := hf
  unfold e_PA_next at hf
  generalize fr_PA_next x0 x1 z_t_leasts 1000000 = ih at hf IH
  refine lv_iload_n hx hb dPA_next_0 rfl (lv_at hl 1 rfl) ?_
  refine lv_iconst (v := nI 1) hx hb dPA_next_1 (by decide +kernel) ?_
  refine lx_iadd hx hb dPA_next_2 ?_
  refine lv_istore_n hx hb dPA_next_3 rfl hl (by decide) rfl (fun ls hl => ?_)
  have hf := fz_s hf
  exact IH x0 x1 (iA x0 1) _ _ _ hf (lv_sub hl [1, 2, 3, 0] rfl) hP hD hS
noncomputable def j_PA_greatestReached_30 (ih : Nat → Nat → Nat → Nat → Option (Nat)) (x0 : Nat) (x1 : Nat) (z_t_former : Nat) (l2 : Nat) (l4 : Nat) (l5 : Nat) (s0 : Nat) : Option (Nat) := (rd z_t_former 10 s0 (fun v2 => (fz (iMx l4 v2) (fun u3 => fz (iA l5 1) (fun u4 => ih l2 v2 u3 u4)))))
noncomputable def b_PA_greatestReached_8 (ih : Nat → Nat → Nat → Nat → Option (Nat)) (x0 : Nat) (x1 : Nat) (z_t_former : Nat) (l2 : Nat) (l3 : Nat) (l4 : Nat) (l5 : Nat) : Option (Nat) := (bif iLt l5 l2 then (bif iEq l3 l2 then (j_PA_greatestReached_30 ih x0 x1 z_t_former l2 l4 l5 1) else (fz (iA l3 1) (fun u1 => j_PA_greatestReached_30 ih x0 x1 z_t_former l2 l4 l5 u1))) else some l4)
noncomputable def fr_PA_greatestReached (x0 : Nat) (x1 : Nat) (z_t_former : Nat) (k : Nat) : Nat → Nat → Nat → Nat → Option (Nat) := Nat.rec (motive := fun _ => Nat → Nat → Nat → Nat → Option (Nat)) (fun _ _ _ _ => none) (fun _ ih a0 a1 a2 a3 => b_PA_greatestReached_8 ih x0 x1 z_t_former a0 a1 a2 a3) k
theorem frs_PA_greatestReached_8 (x0 : Nat) (x1 : Nat) (z_t_former : Nat) (k : Nat) (l2 : Nat) (l3 : Nat) (l4 : Nat) (l5 : Nat) : fr_PA_greatestReached x0 x1 z_t_former (k + 1) l2 l3 l4 l5 = b_PA_greatestReached_8 (fr_PA_greatestReached x0 x1 z_t_former k) x0 x1 z_t_former l2 l3 l4 l5 := rfl
noncomputable def e_PA_greatestReached (ih : Nat → Nat → Nat → Nat → Option (Nat)) (x0 : Nat) (x1 : Nat) (z_t_former : Nat) : Option (Nat) := (ih x1 x0 x0 0)
noncomputable def f_PA_greatestReached (x0 : Nat) (x1 : Nat) (z_t_former : Nat) : Option (Nat) := e_PA_greatestReached (fr_PA_greatestReached x0 x1 z_t_former 1000000) x0 x1 z_t_former
abbrev rm_PA_greatestReached : Room := { frames := 1, cells := 0, slots := 0, locals := 21 }
set_option maxHeartbeats 4000000 in
set_option maxRecDepth 100000 in
theorem ct_PA_greatestReached (l : Launch) (dC : Nat → ClassId) (dI : Nat → Nat → Nat) (K : Nat → ClassId) (q_t : Nat) (q_t_pile : Nat) (q_t_leasts : Nat) (q_t_greatests : Nat) (q_t_former : Nat) (f_t_pile : Nat → Int32) (f_t_leasts : Nat → Int32) (f_t_greatests : Nat → Int32) (f_t_former : Nat → Int32) (x0 : Nat) (x1 : Nat) (z_t_pile : Nat) (z_t_leasts : Nat) (z_t_greatests : Nat) (z_t_former : Nat) (r : Nat) (hf : f_PA_greatestReached x0 x1 z_t_former = some r) : Ct l (dC, dI) vwCl yPA_greatestReached wc_PA_greatestReached rm_PA_greatestReached (tyK K) [.ref q_t, .int (nI x0), .int (nI x1)] (w_PA K q_t q_t_pile q_t_leasts q_t_greatests q_t_former f_t_pile f_t_leasts f_t_greatests f_t_former z_t_pile z_t_leasts z_t_greatests z_t_former) (w_PA K q_t q_t_pile q_t_leasts q_t_greatests q_t_former f_t_pile f_t_leasts f_t_greatests f_t_former z_t_pile z_t_leasts z_t_greatests z_t_former) (some (.int (nI r))) := by
  intro sz
  refine Met.ofW (cc := cPA_greatestReached) (maxL := 6) (ret := (some .int)) (by decide) rfl ?_
  intro p e s m args below meth c s₁ B hml hv
  obtain ⟨rfl, hsz, hP, hK, hD0⟩ := hv
  have hx := B.exec
  have hb := B.bytes
  have hr := B.returns
  have hts := atoms_spec (ws := wc_PA_greatestReached) B.pre
  have hws : ∀ w ∈ WS, w.before _ s = true := fun w h => hts w (List.mem_cons_of_mem _ h)
  have hown : s.vm.findClass RPA = some m.cls := findClass_of_methodNamed B.named
  have hlocks := B.notSynchronized
  subst hsz
  have hD := hD0.self (sz := s.heap.size)
  generalize hAe : va_A (w_PA K q_t q_t_pile q_t_leasts q_t_greatests q_t_former f_t_pile f_t_leasts f_t_greatests f_t_former z_t_pile z_t_leasts z_t_greatests z_t_former) s.heap.size = A at hD ⊢
  have hA : ∀ q : Nat, s.heap.size ≤ q → A q := fun q h => by rw [← hAe]; exact Or.inr h
  have hS : va_S A s.heap s.heap [] := va_S.rf
  have hl := lv_entry ([.ref q_t, .int (nI x0), .int (nI x1)]) (n := 6) (Nat.le_of_ble_eq_true rfl)
  rw [lg_entry_eq]
  generalize (lg_sl ([.ref q_t, .int (nI x0), .int (nI x1)]) ++ List.replicate (6 - (lg_sl ([.ref q_t, .int (nI x0), .int (nI x1)])).length) Slot.unset).toArray = ls at hl ⊢
  have hl : lv_has ls 6 [(0, .ref q_t), (1, .int (nI x0)), (2, .int (nI x1))] := hl
  generalize ([.ref q_t, .int (nI x0), .int (nI x1)] : List Value).toArray = args at hts hws ⊢
  generalize hQ : MQ below _ _ _ _ _ _ = Q
  have hj_30 : ∀ (ih : Nat → Nat → Nat → Nat → Option (Nat)) (IH : (∀ (l2 l3 l4 l5 : Nat) (H : Heap) (locs : List Loc) (ls : Array Slot), ih l2 l3 l4 l5 = some r → lv_has ls 6 [(0, .ref q_t), (2, .int (nI l2)), (3, .int (nI l3)), (4, .int (nI l4)), (5, .int (nI l5))] → va_P (dC, dI) vwCl (w_PA K q_t q_t_pile q_t_leasts q_t_greatests q_t_former f_t_pile f_t_leasts f_t_greatests f_t_former z_t_pile z_t_leasts z_t_greatests z_t_former) H → va_D A (w_PA K q_t q_t_pile q_t_leasts q_t_greatests q_t_former f_t_pile f_t_leasts f_t_greatests f_t_former z_t_pile z_t_leasts z_t_greatests z_t_former) → va_S A s.heap H locs → W p l e (headSpec wc_PA_greatestReached rm_PA_greatestReached).room s m args below meth c H locs 0 0 Q (F0 m 8 ls []))), ∀ (l2 l4 l5 s0 : Nat) (H : Heap) (locs : List Loc) (ls : Array Slot), j_PA_greatestReached_30 ih x0 x1 z_t_former l2 l4 l5 s0 = some r → lv_has ls 6 [(0, .ref q_t), (2, .int (nI l2)), (4, .int (nI l4)), (5, .int (nI l5))] → va_P (dC, dI) vwCl (w_PA K q_t q_t_pile q_t_leasts q_t_greatests q_t_former f_t_pile f_t_leasts f_t_greatests f_t_former z_t_pile z_t_leasts z_t_greatests z_t_former) H → va_D A (w_PA K q_t q_t_pile q_t_leasts q_t_greatests q_t_former f_t_pile f_t_leasts f_t_greatests f_t_former z_t_pile z_t_leasts z_t_greatests z_t_former) → va_S A s.heap H locs → W p l e (headSpec wc_PA_greatestReached rm_PA_greatestReached).room s m args below meth c H locs 0 0 Q (F0 m 30 ls [.int (nI s0), .ref q_t_former]) := by
    intro ih IH l2 l4 l5 s0 H locs ls hf hl hP hD hS
    unfold j_PA_greatestReached_30 at hf
    refine lx_iald hx hb hK hP 4 0 rfl rfl (by decide) dPA_greatestReached_30 hf (fun v2 _ hf => ?_)
    refine lv_istore_n hx hb dPA_greatestReached_31 rfl hl (by decide) rfl (fun ls hl => ?_)
    refine lv_iload hx hb dPA_greatestReached_32 (lv_at hl 3 rfl) ?_
    refine lv_iload_n hx hb dPA_greatestReached_34 rfl (lv_at hl 0 rfl) ?_
    refine lx_mmax hx hb (hml.trans hl.1.symm) hown (hws _ km_PA_49) (hws _ ks_MA_max) (hws _ kz_MA) (hws _ kc_MA_max) (Nat.le_of_ble_eq_true rfl) (Nat.le_of_ble_eq_true rfl) (Nat.le_of_ble_eq_true rfl) (Nat.le_of_ble_eq_true rfl) dPA_greatestReached_35 ?_
    refine lv_istore hx hb dPA_greatestReached_38 hl (by decide) rfl (fun ls hl => ?_)
    refine lx_iinc (k := 4) (d := 1) hx hb dPA_greatestReached_40 hl rfl (by decide +kernel) (by decide) rfl (fun ls hl => ?_)
    refine lv_goto (tgt := 8) hx hb dPA_greatestReached_43 (by decide) ?_
    have hf := fz_s hf
    have hf := fz_s hf
    exact IH l2 v2 (iMx l4 v2) (iA l5 1) _ _ _ hf (lv_sub hl [3, 4, 2, 1, 0] rfl) hP hD hS
  have hb_8 : ∀ (ih : Nat → Nat → Nat → Nat → Option (Nat)) (IH : (∀ (l2 l3 l4 l5 : Nat) (H : Heap) (locs : List Loc) (ls : Array Slot), ih l2 l3 l4 l5 = some r → lv_has ls 6 [(0, .ref q_t), (2, .int (nI l2)), (3, .int (nI l3)), (4, .int (nI l4)), (5, .int (nI l5))] → va_P (dC, dI) vwCl (w_PA K q_t q_t_pile q_t_leasts q_t_greatests q_t_former f_t_pile f_t_leasts f_t_greatests f_t_former z_t_pile z_t_leasts z_t_greatests z_t_former) H → va_D A (w_PA K q_t q_t_pile q_t_leasts q_t_greatests q_t_former f_t_pile f_t_leasts f_t_greatests f_t_former z_t_pile z_t_leasts z_t_greatests z_t_former) → va_S A s.heap H locs → W p l e (headSpec wc_PA_greatestReached rm_PA_greatestReached).room s m args below meth c H locs 0 0 Q (F0 m 8 ls []))), ∀ (l2 l3 l4 l5 : Nat) (H : Heap) (locs : List Loc) (ls : Array Slot), b_PA_greatestReached_8 ih x0 x1 z_t_former l2 l3 l4 l5 = some r → lv_has ls 6 [(0, .ref q_t), (2, .int (nI l2)), (3, .int (nI l3)), (4, .int (nI l4)), (5, .int (nI l5))] → va_P (dC, dI) vwCl (w_PA K q_t q_t_pile q_t_leasts q_t_greatests q_t_former f_t_pile f_t_leasts f_t_greatests f_t_former z_t_pile z_t_leasts z_t_greatests z_t_former) H → va_D A (w_PA K q_t q_t_pile q_t_leasts q_t_greatests q_t_former f_t_pile f_t_leasts f_t_greatests f_t_former z_t_pile z_t_leasts z_t_greatests z_t_former) → va_S A s.heap H locs → W p l e (headSpec wc_PA_greatestReached rm_PA_greatestReached).room s m args below meth c H locs 0 0 Q (F0 m 8 ls []) := by
    intro ih IH l2 l3 l4 l5 H locs ls hf hl hP hD hS
    unfold b_PA_greatestReached_8 at hf
    refine lv_iload hx hb dPA_greatestReached_8 (lv_at hl 4 rfl) ?_
    refine lv_iload_n hx hb dPA_greatestReached_10 rfl (lv_at hl 1 rfl) ?_
    refine lx_icmp_ge (tgt := 46) hx hb dPA_greatestReached_11 (by decide) hf (fun hf => ?_) (fun hf => ?_)
    · refine lv_iload hx hb dPA_greatestReached_46 (lv_at hl 3 rfl) ?_
      obtain rfl := Option.some.inj hf
      rw [← hQ]
      exact W.iret (v := nI l4) hx hb hr (fun t ht hW => ⟨⟨rfl, by rw [ht]; exact hP⟩, hS.F ht⟩) hS.2.2 dPA_greatestReached_48
    · refine lv_aload_n hx hb dPA_greatestReached_14 rfl (lv_at hl 0 rfl) ?_
      refine va_get (D := (dC, dI)) (ci := 4) (v := .ref q_t_former) (C := RPA) (T := TPA) (N := 4) hx hb hws uwPA hown hK hP 0 rfl rfl 3 (by decide) (hws _ kf_PA_21) (fun _ h9 => h9) rfl dPA_greatestReached_15 ?_
      refine lv_iload_n hx hb dPA_greatestReached_18 rfl (lv_at hl 2 rfl) ?_
      refine lv_iload_n hx hb dPA_greatestReached_19 rfl (lv_at hl 1 rfl) ?_
      refine lx_icmp_ne (tgt := 27) hx hb dPA_greatestReached_20 (by decide) hf (fun hf => ?_) (fun hf => ?_)
      · refine lv_iload_n hx hb dPA_greatestReached_27 rfl (lv_at hl 2 rfl) ?_
        refine lv_iconst (v := nI 1) hx hb dPA_greatestReached_28 (by decide +kernel) ?_
        refine lx_iadd hx hb dPA_greatestReached_29 ?_
        have hf := fz_s hf
        exact hj_30 _ IH l2 l4 l5 (iA l3 1) _ _ _ hf (lv_sub hl [0, 1, 3, 4] rfl) hP hD hS
      · refine lv_iconst (v := nI 1) hx hb dPA_greatestReached_23 (by decide +kernel) ?_
        refine lv_goto (tgt := 30) hx hb dPA_greatestReached_24 (by decide) ?_
        exact hj_30 _ IH l2 l4 l5 1 _ _ _ hf (lv_sub hl [0, 1, 3, 4] rfl) hP hD hS
  have key : ∀ k : Nat, (∀ (l2 l3 l4 l5 : Nat) (H : Heap) (locs : List Loc) (ls : Array Slot), fr_PA_greatestReached x0 x1 z_t_former k l2 l3 l4 l5 = some r → lv_has ls 6 [(0, .ref q_t), (2, .int (nI l2)), (3, .int (nI l3)), (4, .int (nI l4)), (5, .int (nI l5))] → va_P (dC, dI) vwCl (w_PA K q_t q_t_pile q_t_leasts q_t_greatests q_t_former f_t_pile f_t_leasts f_t_greatests f_t_former z_t_pile z_t_leasts z_t_greatests z_t_former) H → va_D A (w_PA K q_t q_t_pile q_t_leasts q_t_greatests q_t_former f_t_pile f_t_leasts f_t_greatests f_t_former z_t_pile z_t_leasts z_t_greatests z_t_former) → va_S A s.heap H locs → W p l e (headSpec wc_PA_greatestReached rm_PA_greatestReached).room s m args below meth c H locs 0 0 Q (F0 m 8 ls [])) := by
    intro k
    induction k with
    | zero => exact fun l2 l3 l4 l5 H locs ls hf _ _ _ _ => no_s (α := Nat) (r := r) hf
    | succ k IH => exact fun l2 l3 l4 l5 H locs ls hf => hb_8 (fr_PA_greatestReached x0 x1 z_t_former k) IH l2 l3 l4 l5 H locs ls ((frs_PA_greatestReached_8 x0 x1 z_t_former k l2 l3 l4 l5).symm.trans hf)
  have IH := key 1000000
  have hf : e_PA_greatestReached (fr_PA_greatestReached x0 x1 z_t_former 1000000) x0 x1 z_t_former = some r := hf
  unfold e_PA_greatestReached at hf
  generalize fr_PA_greatestReached x0 x1 z_t_former 1000000 = ih at hf IH
  refine lv_iload_n hx hb dPA_greatestReached_0 rfl (lv_at hl 1 rfl) ?_
  refine lv_istore_n hx hb dPA_greatestReached_1 rfl hl (by decide) rfl (fun ls hl => ?_)
  refine lv_iload_n hx hb dPA_greatestReached_2 rfl (lv_at hl 2 rfl) ?_
  refine lv_istore hx hb dPA_greatestReached_3 hl (by decide) rfl (fun ls hl => ?_)
  refine lv_iconst (v := nI 0) hx hb dPA_greatestReached_5 (by decide +kernel) ?_
  refine lv_istore hx hb dPA_greatestReached_6 hl (by decide) rfl (fun ls hl => ?_)
  exact IH x1 x0 x0 0 _ _ _ hf (lv_sub hl [3, 5, 2, 1, 0] rfl) hP hD hS
noncomputable def b_PA_tellComplement_17 (ih : Nat → Nat → Nat → Nat → Nat → Nat → Nat → Option (Nat × Nat × Nat × Nat)) (z_t_pile : Nat) (z_t_leasts : Nat) (z_t_former : Nat) (z_p0_closings : Nat) (z_p0_pairs : Nat) (z_p1_closings : Nat) (z_p1_pairs : Nat) (l3 : Nat) (l4 : Nat) (y_t_pile : Nat) (y_t_leasts : Nat) (y_t_former : Nat) (y_p1_closings : Nat) : Option (Nat × Nat × Nat × Nat) := (bif iLt l3 l4 then (ih 1 l3 1 y_t_pile y_t_leasts y_t_former y_p1_closings) else (Option.bind (f_PA_next l4 l3 y_t_leasts) (fun q5 => (bif Nat.blt q5 10 then (fz (iA l4 1) (fun u6 => fz (aw y_t_former q5 l4) (fun u7 => ih 0 l3 u6 y_t_pile y_t_leasts u7 y_p1_closings))) else none))))
noncomputable def b_PA_tellComplement_46 (ih : Nat → Nat → Nat → Nat → Nat → Nat → Nat → Option (Nat × Nat × Nat × Nat)) (z_t_pile : Nat) (z_t_leasts : Nat) (z_t_former : Nat) (z_p0_closings : Nat) (z_p0_pairs : Nat) (z_p1_closings : Nat) (z_p1_pairs : Nat) (l3 : Nat) (l4 : Nat) (y_t_pile : Nat) (y_t_leasts : Nat) (y_t_former : Nat) (y_p1_closings : Nat) : Option (Nat × Nat × Nat × Nat) := (bif iLt l3 l4 then some (y_t_pile, y_t_leasts, y_t_former, y_p1_closings) else (Option.bind (f_PA_greatestReached l4 l3 y_t_former) (fun q8 => (Option.bind (f_WD_closeAfter q8 y_p1_closings z_p1_pairs) (fun q9 => (fz (iA l4 1) (fun u10 => ih 1 l3 u10 y_t_pile y_t_leasts y_t_former q9)))))))
noncomputable def fr_PA_tellComplement (z_t_pile : Nat) (z_t_leasts : Nat) (z_t_former : Nat) (z_p0_closings : Nat) (z_p0_pairs : Nat) (z_p1_closings : Nat) (z_p1_pairs : Nat) (k : Nat) : Nat → Nat → Nat → Nat → Nat → Nat → Nat → Option (Nat × Nat × Nat × Nat) := Nat.rec (motive := fun _ => Nat → Nat → Nat → Nat → Nat → Nat → Nat → Option (Nat × Nat × Nat × Nat)) (fun _ _ _ _ _ _ _ => none) (fun _ ih hh a0 a1 a2 a3 a4 a5 => (Nat.rec (motive := fun _ => Option (Nat × Nat × Nat × Nat)) (b_PA_tellComplement_17 ih z_t_pile z_t_leasts z_t_former z_p0_closings z_p0_pairs z_p1_closings z_p1_pairs a0 a1 a2 a3 a4 a5) (fun h0 _ => (Nat.rec (motive := fun _ => Option (Nat × Nat × Nat × Nat)) (b_PA_tellComplement_46 ih z_t_pile z_t_leasts z_t_former z_p0_closings z_p0_pairs z_p1_closings z_p1_pairs a0 a1 a2 a3 a4 a5) (fun h1 _ => none) h0)) hh)) k
theorem frs_PA_tellComplement_17 (z_t_pile : Nat) (z_t_leasts : Nat) (z_t_former : Nat) (z_p0_closings : Nat) (z_p0_pairs : Nat) (z_p1_closings : Nat) (z_p1_pairs : Nat) (k : Nat) (l3 : Nat) (l4 : Nat) (y_t_pile : Nat) (y_t_leasts : Nat) (y_t_former : Nat) (y_p1_closings : Nat) : fr_PA_tellComplement z_t_pile z_t_leasts z_t_former z_p0_closings z_p0_pairs z_p1_closings z_p1_pairs (k + 1) 0 l3 l4 y_t_pile y_t_leasts y_t_former y_p1_closings = b_PA_tellComplement_17 (fr_PA_tellComplement z_t_pile z_t_leasts z_t_former z_p0_closings z_p0_pairs z_p1_closings z_p1_pairs k) z_t_pile z_t_leasts z_t_former z_p0_closings z_p0_pairs z_p1_closings z_p1_pairs l3 l4 y_t_pile y_t_leasts y_t_former y_p1_closings := rfl
theorem frs_PA_tellComplement_46 (z_t_pile : Nat) (z_t_leasts : Nat) (z_t_former : Nat) (z_p0_closings : Nat) (z_p0_pairs : Nat) (z_p1_closings : Nat) (z_p1_pairs : Nat) (k : Nat) (l3 : Nat) (l4 : Nat) (y_t_pile : Nat) (y_t_leasts : Nat) (y_t_former : Nat) (y_p1_closings : Nat) : fr_PA_tellComplement z_t_pile z_t_leasts z_t_former z_p0_closings z_p0_pairs z_p1_closings z_p1_pairs (k + 1) 1 l3 l4 y_t_pile y_t_leasts y_t_former y_p1_closings = b_PA_tellComplement_46 (fr_PA_tellComplement z_t_pile z_t_leasts z_t_former z_p0_closings z_p0_pairs z_p1_closings z_p1_pairs k) z_t_pile z_t_leasts z_t_former z_p0_closings z_p0_pairs z_p1_closings z_p1_pairs l3 l4 y_t_pile y_t_leasts y_t_former y_p1_closings := rfl
noncomputable def e_PA_tellComplement (ih : Nat → Nat → Nat → Nat → Nat → Nat → Nat → Option (Nat × Nat × Nat × Nat)) (z_t_pile : Nat) (z_t_leasts : Nat) (z_t_former : Nat) (z_p0_closings : Nat) (z_p0_pairs : Nat) (z_p1_closings : Nat) (z_p1_pairs : Nat) : Option (Nat × Nat × Nat × Nat) := (Option.bind (f_WD_pairs z_p0_pairs) (fun q1 => (Option.bind (f_PA_writeL z_t_pile z_t_leasts z_p0_closings z_p0_pairs) (fun q2 => (fz q2.1 (fun u3 => fz q2.2 (fun u4 => ih 0 q1 1 u3 u4 z_t_former z_p1_closings)))))))
noncomputable def f_PA_tellComplement (z_t_pile : Nat) (z_t_leasts : Nat) (z_t_former : Nat) (z_p0_closings : Nat) (z_p0_pairs : Nat) (z_p1_closings : Nat) (z_p1_pairs : Nat) : Option (Nat × Nat × Nat × Nat) := e_PA_tellComplement (fr_PA_tellComplement z_t_pile z_t_leasts z_t_former z_p0_closings z_p0_pairs z_p1_closings z_p1_pairs 1000000) z_t_pile z_t_leasts z_t_former z_p0_closings z_p0_pairs z_p1_closings z_p1_pairs
abbrev rm_PA_tellComplement : Room := { frames := 2, cells := 0, slots := 0, locals := 47 }
set_option maxHeartbeats 4000000 in
set_option maxRecDepth 100000 in
theorem ct_PA_tellComplement (l : Launch) (dC : Nat → ClassId) (dI : Nat → Nat → Nat) (K : Nat → ClassId) (q_t : Nat) (q_t_pile : Nat) (q_t_leasts : Nat) (q_t_greatests : Nat) (q_t_former : Nat) (q_p0 : Nat) (q_p0_bits : Nat) (q_p0_closings : Nat) (q_p1 : Nat) (q_p1_bits : Nat) (q_p1_closings : Nat) (f_t_pile : Nat → Int32) (f_t_leasts : Nat → Int32) (f_t_greatests : Nat → Int32) (f_t_former : Nat → Int32) (f_p0_bits : Nat → Int32) (f_p0_closings : Nat → Int32) (f_p1_bits : Nat → Int32) (f_p1_closings : Nat → Int32) (z_t_pile : Nat) (z_t_leasts : Nat) (z_t_greatests : Nat) (z_t_former : Nat) (z_p0_bits : Nat) (z_p0_closings : Nat) (z_p0_pairs : Nat) (z_p1_bits : Nat) (z_p1_closings : Nat) (z_p1_pairs : Nat) (r : Nat × Nat × Nat × Nat) (hf : f_PA_tellComplement z_t_pile z_t_leasts z_t_former z_p0_closings z_p0_pairs z_p1_closings z_p1_pairs = some r) : Ct l (dC, dI) vwCl yPA_tellComplement wc_PA_tellComplement rm_PA_tellComplement (tyK K) [.ref q_t, .ref q_p0, .ref q_p1] ((w_PA K q_t q_t_pile q_t_leasts q_t_greatests q_t_former f_t_pile f_t_leasts f_t_greatests f_t_former z_t_pile z_t_leasts z_t_greatests z_t_former) ++ (w_WD K q_p0 q_p0_bits q_p0_closings f_p0_bits f_p0_closings z_p0_bits z_p0_closings z_p0_pairs) ++ (w_WD K q_p1 q_p1_bits q_p1_closings f_p1_bits f_p1_closings z_p1_bits z_p1_closings z_p1_pairs)) ((w_PA K q_t q_t_pile q_t_leasts q_t_greatests q_t_former f_t_pile f_t_leasts f_t_greatests f_t_former r.1 r.2.1 z_t_greatests r.2.2.1) ++ (w_WD K q_p0 q_p0_bits q_p0_closings f_p0_bits f_p0_closings z_p0_bits z_p0_closings z_p0_pairs) ++ (w_WD K q_p1 q_p1_bits q_p1_closings f_p1_bits f_p1_closings z_p1_bits r.2.2.2 z_p1_pairs)) none := by
  intro sz
  refine Met.ofW (cc := cPA_tellComplement) (maxL := 5) (ret := none) (by decide) rfl ?_
  intro p e s m args below meth c s₁ B hml hv
  obtain ⟨rfl, hsz, hP, hK, hD0⟩ := hv
  have hx := B.exec
  have hb := B.bytes
  have hr := B.returns
  have hts := atoms_spec (ws := wc_PA_tellComplement) B.pre
  have hws : ∀ w ∈ WS, w.before _ s = true := fun w h => hts w (List.mem_cons_of_mem _ h)
  have hown : s.vm.findClass RPA = some m.cls := findClass_of_methodNamed B.named
  have hlocks := B.notSynchronized
  subst hsz
  have hD := hD0.self (sz := s.heap.size)
  generalize hAe : va_A ((w_PA K q_t q_t_pile q_t_leasts q_t_greatests q_t_former f_t_pile f_t_leasts f_t_greatests f_t_former z_t_pile z_t_leasts z_t_greatests z_t_former) ++ (w_WD K q_p0 q_p0_bits q_p0_closings f_p0_bits f_p0_closings z_p0_bits z_p0_closings z_p0_pairs) ++ (w_WD K q_p1 q_p1_bits q_p1_closings f_p1_bits f_p1_closings z_p1_bits z_p1_closings z_p1_pairs)) s.heap.size = A at hD ⊢
  have hA : ∀ q : Nat, s.heap.size ≤ q → A q := fun q h => by rw [← hAe]; exact Or.inr h
  have hS : va_S A s.heap s.heap [] := va_S.rf
  have hl := lv_entry ([.ref q_t, .ref q_p0, .ref q_p1]) (n := 5) (Nat.le_of_ble_eq_true rfl)
  rw [lg_entry_eq]
  generalize (lg_sl ([.ref q_t, .ref q_p0, .ref q_p1]) ++ List.replicate (5 - (lg_sl ([.ref q_t, .ref q_p0, .ref q_p1])).length) Slot.unset).toArray = ls at hl ⊢
  have hl : lv_has ls 5 [(0, .ref q_t), (1, .ref q_p0), (2, .ref q_p1)] := hl
  generalize ([.ref q_t, .ref q_p0, .ref q_p1] : List Value).toArray = args at hts hws ⊢
  generalize hQ : MQ below _ _ _ _ _ _ = Q
  have hb_17 : ∀ (ih : Nat → Nat → Nat → Nat → Nat → Nat → Nat → Option (Nat × Nat × Nat × Nat)) (IH : (∀ (l3 l4 y_t_pile y_t_leasts y_t_former y_p1_closings : Nat) (H : Heap) (locs : List Loc) (ls : Array Slot), ih 0 l3 l4 y_t_pile y_t_leasts y_t_former y_p1_closings = some r → lv_has ls 5 [(0, .ref q_t), (2, .ref q_p1), (3, .int (nI l3)), (4, .int (nI l4))] → va_P (dC, dI) vwCl ((w_PA K q_t q_t_pile q_t_leasts q_t_greatests q_t_former f_t_pile f_t_leasts f_t_greatests f_t_former y_t_pile y_t_leasts z_t_greatests y_t_former) ++ (w_WD K q_p0 q_p0_bits q_p0_closings f_p0_bits f_p0_closings z_p0_bits z_p0_closings z_p0_pairs) ++ (w_WD K q_p1 q_p1_bits q_p1_closings f_p1_bits f_p1_closings z_p1_bits y_p1_closings z_p1_pairs)) H → va_D A ((w_PA K q_t q_t_pile q_t_leasts q_t_greatests q_t_former f_t_pile f_t_leasts f_t_greatests f_t_former y_t_pile y_t_leasts z_t_greatests y_t_former) ++ (w_WD K q_p0 q_p0_bits q_p0_closings f_p0_bits f_p0_closings z_p0_bits z_p0_closings z_p0_pairs) ++ (w_WD K q_p1 q_p1_bits q_p1_closings f_p1_bits f_p1_closings z_p1_bits y_p1_closings z_p1_pairs)) → va_S A s.heap H locs → W p l e (headSpec wc_PA_tellComplement rm_PA_tellComplement).room s m args below meth c H locs 0 0 Q (F0 m 17 ls [])) ∧ (∀ (l3 l4 y_t_pile y_t_leasts y_t_former y_p1_closings : Nat) (H : Heap) (locs : List Loc) (ls : Array Slot), ih 1 l3 l4 y_t_pile y_t_leasts y_t_former y_p1_closings = some r → lv_has ls 5 [(0, .ref q_t), (2, .ref q_p1), (3, .int (nI l3)), (4, .int (nI l4))] → va_P (dC, dI) vwCl ((w_PA K q_t q_t_pile q_t_leasts q_t_greatests q_t_former f_t_pile f_t_leasts f_t_greatests f_t_former y_t_pile y_t_leasts z_t_greatests y_t_former) ++ (w_WD K q_p0 q_p0_bits q_p0_closings f_p0_bits f_p0_closings z_p0_bits z_p0_closings z_p0_pairs) ++ (w_WD K q_p1 q_p1_bits q_p1_closings f_p1_bits f_p1_closings z_p1_bits y_p1_closings z_p1_pairs)) H → va_D A ((w_PA K q_t q_t_pile q_t_leasts q_t_greatests q_t_former f_t_pile f_t_leasts f_t_greatests f_t_former y_t_pile y_t_leasts z_t_greatests y_t_former) ++ (w_WD K q_p0 q_p0_bits q_p0_closings f_p0_bits f_p0_closings z_p0_bits z_p0_closings z_p0_pairs) ++ (w_WD K q_p1 q_p1_bits q_p1_closings f_p1_bits f_p1_closings z_p1_bits y_p1_closings z_p1_pairs)) → va_S A s.heap H locs → W p l e (headSpec wc_PA_tellComplement rm_PA_tellComplement).room s m args below meth c H locs 0 0 Q (F0 m 46 ls []))), ∀ (l3 l4 y_t_pile y_t_leasts y_t_former y_p1_closings : Nat) (H : Heap) (locs : List Loc) (ls : Array Slot), b_PA_tellComplement_17 ih z_t_pile z_t_leasts z_t_former z_p0_closings z_p0_pairs z_p1_closings z_p1_pairs l3 l4 y_t_pile y_t_leasts y_t_former y_p1_closings = some r → lv_has ls 5 [(0, .ref q_t), (2, .ref q_p1), (3, .int (nI l3)), (4, .int (nI l4))] → va_P (dC, dI) vwCl ((w_PA K q_t q_t_pile q_t_leasts q_t_greatests q_t_former f_t_pile f_t_leasts f_t_greatests f_t_former y_t_pile y_t_leasts z_t_greatests y_t_former) ++ (w_WD K q_p0 q_p0_bits q_p0_closings f_p0_bits f_p0_closings z_p0_bits z_p0_closings z_p0_pairs) ++ (w_WD K q_p1 q_p1_bits q_p1_closings f_p1_bits f_p1_closings z_p1_bits y_p1_closings z_p1_pairs)) H → va_D A ((w_PA K q_t q_t_pile q_t_leasts q_t_greatests q_t_former f_t_pile f_t_leasts f_t_greatests f_t_former y_t_pile y_t_leasts z_t_greatests y_t_former) ++ (w_WD K q_p0 q_p0_bits q_p0_closings f_p0_bits f_p0_closings z_p0_bits z_p0_closings z_p0_pairs) ++ (w_WD K q_p1 q_p1_bits q_p1_closings f_p1_bits f_p1_closings z_p1_bits y_p1_closings z_p1_pairs)) → va_S A s.heap H locs → W p l e (headSpec wc_PA_tellComplement rm_PA_tellComplement).room s m args below meth c H locs 0 0 Q (F0 m 17 ls []) := by
    intro ih IH l3 l4 y_t_pile y_t_leasts y_t_former y_p1_closings H locs ls hf hl hP hD hS
    unfold b_PA_tellComplement_17 at hf
    refine lv_iload hx hb dPA_tellComplement_17 (lv_at hl 3 rfl) ?_
    refine lv_iload_n hx hb dPA_tellComplement_19 rfl (lv_at hl 2 rfl) ?_
    refine lx_icmp_gt (tgt := 43) hx hb dPA_tellComplement_20 (by decide) hf (fun hf => ?_) (fun hf => ?_)
    · refine lv_iconst (v := nI 1) hx hb dPA_tellComplement_43 (by decide +kernel) ?_
      refine lv_istore hx hb dPA_tellComplement_44 hl (by decide) rfl (fun ls hl => ?_)
      exact IH.2 l3 1 y_t_pile y_t_leasts y_t_former y_p1_closings _ _ _ hf (lv_sub hl [1, 2, 3, 0] rfl) hP hD hS
    · refine lv_aload_n hx hb dPA_tellComplement_23 rfl (lv_at hl 0 rfl) ?_
      refine va_get (D := (dC, dI)) (ci := 4) (v := .ref q_t_former) (C := RPA) (T := TPA) (N := 4) hx hb hws uwPA hown hK hP 0 rfl rfl 3 (by decide) (hws _ kf_PA_21) (fun _ h9 => h9) rfl dPA_tellComplement_24 ?_
      refine lv_aload_n hx hb dPA_tellComplement_27 rfl (lv_at hl 0 rfl) ?_
      refine lv_iload hx hb dPA_tellComplement_28 (lv_at hl 3 rfl) ?_
      refine lv_iload_n hx hb dPA_tellComplement_30 rfl (lv_at hl 2 rfl) ?_
      obtain ⟨q5, hq, hf⟩ := bd_s hf
      refine ct_callr (ws' := (w_PA K q_t q_t_pile q_t_leasts q_t_greatests q_t_former f_t_pile f_t_leasts f_t_greatests f_t_former y_t_pile y_t_leasts z_t_greatests y_t_former) ++ (w_WD K q_p0 q_p0_bits q_p0_closings f_p0_bits f_p0_closings z_p0_bits z_p0_closings z_p0_pairs) ++ (w_WD K q_p1 q_p1_bits q_p1_closings f_p1_bits f_p1_closings z_p1_bits y_p1_closings z_p1_pairs)) (va_runV (As := [.int (nI l4), .int (nI l3)]) (rest := [.ref q_t_former]) ⟨hx, hb, hml, hown, hws⟩ (ct_PA_next l dC dI K q_t q_t_pile q_t_leasts q_t_greatests q_t_former f_t_pile f_t_leasts f_t_greatests f_t_former l4 l3 y_t_pile y_t_leasts z_t_greatests y_t_former q5 hq _) ⟨cb_PA_next hws rm_PA_next (hws _ km_PA_42) ⟨Nat.le_of_ble_eq_true rfl, Nat.le_of_ble_eq_true rfl⟩, hws _ ki_PA_next, hws _ ke_PA_PA_next_PA_next⟩ ⟨ct_blind _ _ _, va_recv (ci := 4) (q0 := 0) (q := (RPA, TPA, 4)) hK hP rfl rfl, ct_pre (cs := (w_PA K q_t q_t_pile q_t_leasts q_t_greatests q_t_former f_t_pile f_t_leasts f_t_greatests f_t_former y_t_pile y_t_leasts z_t_greatests y_t_former)) hP hD hK [0, 1, 2, 3, 4] (by decide) rfl _⟩ rfl rfl hl.1 rfl (lv_room (Nat.le_of_ble_eq_true rfl)) dPA_tellComplement_31 ⟨Nat.le_of_ble_eq_true rfl, Nat.le_of_ble_eq_true rfl⟩) hP hD hS hA [0, 1, 2, 3, 4] rfl rfl rfl rfl (fun H locs hP hD hS => ?_)
      refine lv_iload hx hb dPA_tellComplement_34 (lv_at hl 3 rfl) ?_
      refine lx_iast hx hb hK hP hD hS 4 0 rfl rfl (by decide) dPA_tellComplement_36 hf (fun hf H locs hP hD hS => ?_)
      have hP : va_P (dC, dI) vwCl ((w_PA K q_t q_t_pile q_t_leasts q_t_greatests q_t_former f_t_pile f_t_leasts f_t_greatests f_t_former y_t_pile y_t_leasts z_t_greatests (aw y_t_former q5 l4)) ++ (w_WD K q_p0 q_p0_bits q_p0_closings f_p0_bits f_p0_closings z_p0_bits z_p0_closings z_p0_pairs) ++ (w_WD K q_p1 q_p1_bits q_p1_closings f_p1_bits f_p1_closings z_p1_bits y_p1_closings z_p1_pairs)) H := hP
      have hD : va_D A ((w_PA K q_t q_t_pile q_t_leasts q_t_greatests q_t_former f_t_pile f_t_leasts f_t_greatests f_t_former y_t_pile y_t_leasts z_t_greatests (aw y_t_former q5 l4)) ++ (w_WD K q_p0 q_p0_bits q_p0_closings f_p0_bits f_p0_closings z_p0_bits z_p0_closings z_p0_pairs) ++ (w_WD K q_p1 q_p1_bits q_p1_closings f_p1_bits f_p1_closings z_p1_bits y_p1_closings z_p1_pairs)) := hD
      refine lx_iinc (k := 3) (d := 1) hx hb dPA_tellComplement_37 hl rfl (by decide +kernel) (by decide) rfl (fun ls hl => ?_)
      refine lv_goto (tgt := 17) hx hb dPA_tellComplement_40 (by decide) ?_
      have hf := fz_s hf
      have hf := fz_s hf
      exact IH.1 l3 (iA l4 1) y_t_pile y_t_leasts (aw y_t_former q5 l4) y_p1_closings _ _ _ hf (lv_sub hl [1, 2, 3, 0] rfl) hP hD hS
  have hb_46 : ∀ (ih : Nat → Nat → Nat → Nat → Nat → Nat → Nat → Option (Nat × Nat × Nat × Nat)) (IH : (∀ (l3 l4 y_t_pile y_t_leasts y_t_former y_p1_closings : Nat) (H : Heap) (locs : List Loc) (ls : Array Slot), ih 0 l3 l4 y_t_pile y_t_leasts y_t_former y_p1_closings = some r → lv_has ls 5 [(0, .ref q_t), (2, .ref q_p1), (3, .int (nI l3)), (4, .int (nI l4))] → va_P (dC, dI) vwCl ((w_PA K q_t q_t_pile q_t_leasts q_t_greatests q_t_former f_t_pile f_t_leasts f_t_greatests f_t_former y_t_pile y_t_leasts z_t_greatests y_t_former) ++ (w_WD K q_p0 q_p0_bits q_p0_closings f_p0_bits f_p0_closings z_p0_bits z_p0_closings z_p0_pairs) ++ (w_WD K q_p1 q_p1_bits q_p1_closings f_p1_bits f_p1_closings z_p1_bits y_p1_closings z_p1_pairs)) H → va_D A ((w_PA K q_t q_t_pile q_t_leasts q_t_greatests q_t_former f_t_pile f_t_leasts f_t_greatests f_t_former y_t_pile y_t_leasts z_t_greatests y_t_former) ++ (w_WD K q_p0 q_p0_bits q_p0_closings f_p0_bits f_p0_closings z_p0_bits z_p0_closings z_p0_pairs) ++ (w_WD K q_p1 q_p1_bits q_p1_closings f_p1_bits f_p1_closings z_p1_bits y_p1_closings z_p1_pairs)) → va_S A s.heap H locs → W p l e (headSpec wc_PA_tellComplement rm_PA_tellComplement).room s m args below meth c H locs 0 0 Q (F0 m 17 ls [])) ∧ (∀ (l3 l4 y_t_pile y_t_leasts y_t_former y_p1_closings : Nat) (H : Heap) (locs : List Loc) (ls : Array Slot), ih 1 l3 l4 y_t_pile y_t_leasts y_t_former y_p1_closings = some r → lv_has ls 5 [(0, .ref q_t), (2, .ref q_p1), (3, .int (nI l3)), (4, .int (nI l4))] → va_P (dC, dI) vwCl ((w_PA K q_t q_t_pile q_t_leasts q_t_greatests q_t_former f_t_pile f_t_leasts f_t_greatests f_t_former y_t_pile y_t_leasts z_t_greatests y_t_former) ++ (w_WD K q_p0 q_p0_bits q_p0_closings f_p0_bits f_p0_closings z_p0_bits z_p0_closings z_p0_pairs) ++ (w_WD K q_p1 q_p1_bits q_p1_closings f_p1_bits f_p1_closings z_p1_bits y_p1_closings z_p1_pairs)) H → va_D A ((w_PA K q_t q_t_pile q_t_leasts q_t_greatests q_t_former f_t_pile f_t_leasts f_t_greatests f_t_former y_t_pile y_t_leasts z_t_greatests y_t_former) ++ (w_WD K q_p0 q_p0_bits q_p0_closings f_p0_bits f_p0_closings z_p0_bits z_p0_closings z_p0_pairs) ++ (w_WD K q_p1 q_p1_bits q_p1_closings f_p1_bits f_p1_closings z_p1_bits y_p1_closings z_p1_pairs)) → va_S A s.heap H locs → W p l e (headSpec wc_PA_tellComplement rm_PA_tellComplement).room s m args below meth c H locs 0 0 Q (F0 m 46 ls []))), ∀ (l3 l4 y_t_pile y_t_leasts y_t_former y_p1_closings : Nat) (H : Heap) (locs : List Loc) (ls : Array Slot), b_PA_tellComplement_46 ih z_t_pile z_t_leasts z_t_former z_p0_closings z_p0_pairs z_p1_closings z_p1_pairs l3 l4 y_t_pile y_t_leasts y_t_former y_p1_closings = some r → lv_has ls 5 [(0, .ref q_t), (2, .ref q_p1), (3, .int (nI l3)), (4, .int (nI l4))] → va_P (dC, dI) vwCl ((w_PA K q_t q_t_pile q_t_leasts q_t_greatests q_t_former f_t_pile f_t_leasts f_t_greatests f_t_former y_t_pile y_t_leasts z_t_greatests y_t_former) ++ (w_WD K q_p0 q_p0_bits q_p0_closings f_p0_bits f_p0_closings z_p0_bits z_p0_closings z_p0_pairs) ++ (w_WD K q_p1 q_p1_bits q_p1_closings f_p1_bits f_p1_closings z_p1_bits y_p1_closings z_p1_pairs)) H → va_D A ((w_PA K q_t q_t_pile q_t_leasts q_t_greatests q_t_former f_t_pile f_t_leasts f_t_greatests f_t_former y_t_pile y_t_leasts z_t_greatests y_t_former) ++ (w_WD K q_p0 q_p0_bits q_p0_closings f_p0_bits f_p0_closings z_p0_bits z_p0_closings z_p0_pairs) ++ (w_WD K q_p1 q_p1_bits q_p1_closings f_p1_bits f_p1_closings z_p1_bits y_p1_closings z_p1_pairs)) → va_S A s.heap H locs → W p l e (headSpec wc_PA_tellComplement rm_PA_tellComplement).room s m args below meth c H locs 0 0 Q (F0 m 46 ls []) := by
    intro ih IH l3 l4 y_t_pile y_t_leasts y_t_former y_p1_closings H locs ls hf hl hP hD hS
    unfold b_PA_tellComplement_46 at hf
    refine lv_iload hx hb dPA_tellComplement_46 (lv_at hl 3 rfl) ?_
    refine lv_iload_n hx hb dPA_tellComplement_48 rfl (lv_at hl 2 rfl) ?_
    refine lx_icmp_gt (tgt := 69) hx hb dPA_tellComplement_49 (by decide) hf (fun hf => ?_) (fun hf => ?_)
    · obtain rfl := Option.some.inj hf
      rw [← hQ]
      exact W.vret hx hb hr (fun t ht hW => ⟨⟨rfl, by rw [ht]; exact hP⟩, hS.F ht⟩) hS.2.2 dPA_tellComplement_69
    · refine lv_aload_n hx hb dPA_tellComplement_52 rfl (lv_at hl 1 rfl) ?_
      refine lv_aload_n hx hb dPA_tellComplement_53 rfl (lv_at hl 0 rfl) ?_
      refine lv_iload hx hb dPA_tellComplement_54 (lv_at hl 3 rfl) ?_
      refine lv_iload_n hx hb dPA_tellComplement_56 rfl (lv_at hl 2 rfl) ?_
      obtain ⟨q8, hq, hf⟩ := bd_s hf
      refine ct_callr (ws' := (w_PA K q_t q_t_pile q_t_leasts q_t_greatests q_t_former f_t_pile f_t_leasts f_t_greatests f_t_former y_t_pile y_t_leasts z_t_greatests y_t_former) ++ (w_WD K q_p0 q_p0_bits q_p0_closings f_p0_bits f_p0_closings z_p0_bits z_p0_closings z_p0_pairs) ++ (w_WD K q_p1 q_p1_bits q_p1_closings f_p1_bits f_p1_closings z_p1_bits y_p1_closings z_p1_pairs)) (va_runV (As := [.int (nI l4), .int (nI l3)]) (rest := [.ref q_p1]) ⟨hx, hb, hml, hown, hws⟩ (ct_PA_greatestReached l dC dI K q_t q_t_pile q_t_leasts q_t_greatests q_t_former f_t_pile f_t_leasts f_t_greatests f_t_former l4 l3 y_t_pile y_t_leasts z_t_greatests y_t_former q8 hq _) ⟨cb_PA_greatestReached hws rm_PA_greatestReached (hws _ km_PA_46) ⟨Nat.le_of_ble_eq_true rfl, Nat.le_of_ble_eq_true rfl⟩, hws _ ki_PA_greatestReached, hws _ ke_PA_PA_greatestReached_PA_greatestReached⟩ ⟨ct_blind _ _ _, va_recv (ci := 4) (q0 := 0) (q := (RPA, TPA, 4)) hK hP rfl rfl, ct_pre (cs := (w_PA K q_t q_t_pile q_t_leasts q_t_greatests q_t_former f_t_pile f_t_leasts f_t_greatests f_t_former y_t_pile y_t_leasts z_t_greatests y_t_former)) hP hD hK [0, 1, 2, 3, 4] (by decide) rfl _⟩ rfl rfl hl.1 rfl (lv_room (Nat.le_of_ble_eq_true rfl)) dPA_tellComplement_57 ⟨Nat.le_of_ble_eq_true rfl, Nat.le_of_ble_eq_true rfl⟩) hP hD hS hA [0, 1, 2, 3, 4] rfl rfl rfl rfl (fun H locs hP hD hS => ?_)
      obtain ⟨q9, hq, hf⟩ := bd_s hf
      refine ct_callv (ws' := (w_PA K q_t q_t_pile q_t_leasts q_t_greatests q_t_former f_t_pile f_t_leasts f_t_greatests f_t_former y_t_pile y_t_leasts z_t_greatests y_t_former) ++ (w_WD K q_p0 q_p0_bits q_p0_closings f_p0_bits f_p0_closings z_p0_bits z_p0_closings z_p0_pairs) ++ (w_WD K q_p1 q_p1_bits q_p1_closings f_p1_bits f_p1_closings z_p1_bits q9 z_p1_pairs)) (va_runV (As := [.int (nI q8)]) (rest := []) ⟨hx, hb, hml, hown, hws⟩ (ct_WD_closeAfter l dC dI K q_p1 q_p1_bits q_p1_closings f_p1_bits f_p1_closings q8 z_p1_bits y_p1_closings z_p1_pairs q9 hq _) ⟨cb_WD_closeAfter hws rm_WD_closeAfter (hws _ km_PA_34) ⟨Nat.le_of_ble_eq_true rfl, Nat.le_of_ble_eq_true rfl⟩, hws _ ki_WD_closeAfter, hws _ ke_WD_WD_closeAfter_WD_closeAfter⟩ ⟨ct_blind _ _ _, va_recv (ci := 8) (q0 := 8) (q := (RWD, TWD, 3)) hK hP rfl rfl, ct_pre (cs := (w_WD K q_p1 q_p1_bits q_p1_closings f_p1_bits f_p1_closings z_p1_bits y_p1_closings z_p1_pairs)) hP hD hK [8, 9, 10] (by decide) rfl _⟩ rfl rfl hl.1 rfl (lv_room (Nat.le_of_ble_eq_true rfl)) dPA_tellComplement_60 ⟨Nat.le_of_ble_eq_true rfl, Nat.le_of_ble_eq_true rfl⟩) hP hD hS hA [8, 9, 10] rfl rfl rfl rfl (fun H locs hP hD hS => ?_)
      have hP : va_P (dC, dI) vwCl ((w_PA K q_t q_t_pile q_t_leasts q_t_greatests q_t_former f_t_pile f_t_leasts f_t_greatests f_t_former y_t_pile y_t_leasts z_t_greatests y_t_former) ++ (w_WD K q_p0 q_p0_bits q_p0_closings f_p0_bits f_p0_closings z_p0_bits z_p0_closings z_p0_pairs) ++ (w_WD K q_p1 q_p1_bits q_p1_closings f_p1_bits f_p1_closings z_p1_bits q9 z_p1_pairs)) H := hP
      have hD : va_D A ((w_PA K q_t q_t_pile q_t_leasts q_t_greatests q_t_former f_t_pile f_t_leasts f_t_greatests f_t_former y_t_pile y_t_leasts z_t_greatests y_t_former) ++ (w_WD K q_p0 q_p0_bits q_p0_closings f_p0_bits f_p0_closings z_p0_bits z_p0_closings z_p0_pairs) ++ (w_WD K q_p1 q_p1_bits q_p1_closings f_p1_bits f_p1_closings z_p1_bits q9 z_p1_pairs)) := hD
      refine lx_iinc (k := 3) (d := 1) hx hb dPA_tellComplement_63 hl rfl (by decide +kernel) (by decide) rfl (fun ls hl => ?_)
      refine lv_goto (tgt := 46) hx hb dPA_tellComplement_66 (by decide) ?_
      have hf := fz_s hf
      exact IH.2 l3 (iA l4 1) y_t_pile y_t_leasts y_t_former q9 _ _ _ hf (lv_sub hl [1, 2, 3, 0] rfl) hP hD hS
  have key : ∀ k : Nat, (∀ (l3 l4 y_t_pile y_t_leasts y_t_former y_p1_closings : Nat) (H : Heap) (locs : List Loc) (ls : Array Slot), fr_PA_tellComplement z_t_pile z_t_leasts z_t_former z_p0_closings z_p0_pairs z_p1_closings z_p1_pairs k 0 l3 l4 y_t_pile y_t_leasts y_t_former y_p1_closings = some r → lv_has ls 5 [(0, .ref q_t), (2, .ref q_p1), (3, .int (nI l3)), (4, .int (nI l4))] → va_P (dC, dI) vwCl ((w_PA K q_t q_t_pile q_t_leasts q_t_greatests q_t_former f_t_pile f_t_leasts f_t_greatests f_t_former y_t_pile y_t_leasts z_t_greatests y_t_former) ++ (w_WD K q_p0 q_p0_bits q_p0_closings f_p0_bits f_p0_closings z_p0_bits z_p0_closings z_p0_pairs) ++ (w_WD K q_p1 q_p1_bits q_p1_closings f_p1_bits f_p1_closings z_p1_bits y_p1_closings z_p1_pairs)) H → va_D A ((w_PA K q_t q_t_pile q_t_leasts q_t_greatests q_t_former f_t_pile f_t_leasts f_t_greatests f_t_former y_t_pile y_t_leasts z_t_greatests y_t_former) ++ (w_WD K q_p0 q_p0_bits q_p0_closings f_p0_bits f_p0_closings z_p0_bits z_p0_closings z_p0_pairs) ++ (w_WD K q_p1 q_p1_bits q_p1_closings f_p1_bits f_p1_closings z_p1_bits y_p1_closings z_p1_pairs)) → va_S A s.heap H locs → W p l e (headSpec wc_PA_tellComplement rm_PA_tellComplement).room s m args below meth c H locs 0 0 Q (F0 m 17 ls [])) ∧ (∀ (l3 l4 y_t_pile y_t_leasts y_t_former y_p1_closings : Nat) (H : Heap) (locs : List Loc) (ls : Array Slot), fr_PA_tellComplement z_t_pile z_t_leasts z_t_former z_p0_closings z_p0_pairs z_p1_closings z_p1_pairs k 1 l3 l4 y_t_pile y_t_leasts y_t_former y_p1_closings = some r → lv_has ls 5 [(0, .ref q_t), (2, .ref q_p1), (3, .int (nI l3)), (4, .int (nI l4))] → va_P (dC, dI) vwCl ((w_PA K q_t q_t_pile q_t_leasts q_t_greatests q_t_former f_t_pile f_t_leasts f_t_greatests f_t_former y_t_pile y_t_leasts z_t_greatests y_t_former) ++ (w_WD K q_p0 q_p0_bits q_p0_closings f_p0_bits f_p0_closings z_p0_bits z_p0_closings z_p0_pairs) ++ (w_WD K q_p1 q_p1_bits q_p1_closings f_p1_bits f_p1_closings z_p1_bits y_p1_closings z_p1_pairs)) H → va_D A ((w_PA K q_t q_t_pile q_t_leasts q_t_greatests q_t_former f_t_pile f_t_leasts f_t_greatests f_t_former y_t_pile y_t_leasts z_t_greatests y_t_former) ++ (w_WD K q_p0 q_p0_bits q_p0_closings f_p0_bits f_p0_closings z_p0_bits z_p0_closings z_p0_pairs) ++ (w_WD K q_p1 q_p1_bits q_p1_closings f_p1_bits f_p1_closings z_p1_bits y_p1_closings z_p1_pairs)) → va_S A s.heap H locs → W p l e (headSpec wc_PA_tellComplement rm_PA_tellComplement).room s m args below meth c H locs 0 0 Q (F0 m 46 ls [])) := by
    intro k
    induction k with
    | zero => exact ⟨fun l3 l4 y_t_pile y_t_leasts y_t_former y_p1_closings H locs ls hf _ _ _ _ => no_s (α := Nat × Nat × Nat × Nat) (r := r) hf, fun l3 l4 y_t_pile y_t_leasts y_t_former y_p1_closings H locs ls hf _ _ _ _ => no_s (α := Nat × Nat × Nat × Nat) (r := r) hf⟩
    | succ k IH => exact ⟨fun l3 l4 y_t_pile y_t_leasts y_t_former y_p1_closings H locs ls hf => hb_17 (fr_PA_tellComplement z_t_pile z_t_leasts z_t_former z_p0_closings z_p0_pairs z_p1_closings z_p1_pairs k) IH l3 l4 y_t_pile y_t_leasts y_t_former y_p1_closings H locs ls ((frs_PA_tellComplement_17 z_t_pile z_t_leasts z_t_former z_p0_closings z_p0_pairs z_p1_closings z_p1_pairs k l3 l4 y_t_pile y_t_leasts y_t_former y_p1_closings).symm.trans hf), fun l3 l4 y_t_pile y_t_leasts y_t_former y_p1_closings H locs ls hf => hb_46 (fr_PA_tellComplement z_t_pile z_t_leasts z_t_former z_p0_closings z_p0_pairs z_p1_closings z_p1_pairs k) IH l3 l4 y_t_pile y_t_leasts y_t_former y_p1_closings H locs ls ((frs_PA_tellComplement_46 z_t_pile z_t_leasts z_t_former z_p0_closings z_p0_pairs z_p1_closings z_p1_pairs k l3 l4 y_t_pile y_t_leasts y_t_former y_p1_closings).symm.trans hf)⟩
  have IH := key 1000000
  have hf : e_PA_tellComplement (fr_PA_tellComplement z_t_pile z_t_leasts z_t_former z_p0_closings z_p0_pairs z_p1_closings z_p1_pairs 1000000) z_t_pile z_t_leasts z_t_former z_p0_closings z_p0_pairs z_p1_closings z_p1_pairs = some r := hf
  unfold e_PA_tellComplement at hf
  generalize fr_PA_tellComplement z_t_pile z_t_leasts z_t_former z_p0_closings z_p0_pairs z_p1_closings z_p1_pairs 1000000 = ih at hf IH
  refine lv_aload_n hx hb dPA_tellComplement_0 rfl (lv_at hl 1 rfl) ?_
  obtain ⟨q1, hq, hf⟩ := bd_s hf
  refine ct_callr (ws' := (w_PA K q_t q_t_pile q_t_leasts q_t_greatests q_t_former f_t_pile f_t_leasts f_t_greatests f_t_former z_t_pile z_t_leasts z_t_greatests z_t_former) ++ (w_WD K q_p0 q_p0_bits q_p0_closings f_p0_bits f_p0_closings z_p0_bits z_p0_closings z_p0_pairs) ++ (w_WD K q_p1 q_p1_bits q_p1_closings f_p1_bits f_p1_closings z_p1_bits z_p1_closings z_p1_pairs)) (va_runV (As := []) (rest := []) ⟨hx, hb, hml, hown, hws⟩ (ct_WD_pairs l dC dI K q_p0 q_p0_bits q_p0_closings f_p0_bits f_p0_closings z_p0_bits z_p0_closings z_p0_pairs q1 hq _) ⟨cb_WD_pairs hws rm_WD_pairs (hws _ km_PA_24) ⟨Nat.le_of_ble_eq_true rfl, Nat.le_of_ble_eq_true rfl⟩, hws _ ki_WD_pairs, hws _ ke_WD_WD_pairs_WD_pairs⟩ ⟨ct_blind _ _ _, va_recv (ci := 8) (q0 := 5) (q := (RWD, TWD, 3)) hK hP rfl rfl, ct_pre (cs := (w_WD K q_p0 q_p0_bits q_p0_closings f_p0_bits f_p0_closings z_p0_bits z_p0_closings z_p0_pairs)) hP hD hK [5, 6, 7] (by decide) rfl _⟩ rfl rfl hl.1 rfl (lv_room (Nat.le_of_ble_eq_true rfl)) dPA_tellComplement_1 ⟨Nat.le_of_ble_eq_true rfl, Nat.le_of_ble_eq_true rfl⟩) hP hD hS hA [5, 6, 7] rfl rfl rfl rfl (fun H locs hP hD hS => ?_)
  refine lv_istore_n hx hb dPA_tellComplement_4 rfl hl (by decide) rfl (fun ls hl => ?_)
  refine lv_aload_n hx hb dPA_tellComplement_5 rfl (lv_at hl 1 rfl) ?_
  refine lv_aload_n hx hb dPA_tellComplement_6 rfl (lv_at hl 2 rfl) ?_
  refine lv_aload_n hx hb dPA_tellComplement_7 rfl (lv_at hl 1 rfl) ?_
  refine va_get (D := (dC, dI)) (ci := 4) (v := .ref q_t_leasts) (C := RPA) (T := TPA) (N := 4) hx hb hws uwPA hown hK hP 0 rfl rfl 1 (by decide) (hws _ kf_PA_15) (fun _ h9 => h9) rfl dPA_tellComplement_8 ?_
  obtain ⟨q2, hq, hf⟩ := bd_s hf
  refine ct_callv (ws' := (w_PA K q_t q_t_pile q_t_leasts q_t_greatests q_t_former f_t_pile f_t_leasts f_t_greatests f_t_former q2.1 q2.2 z_t_greatests z_t_former) ++ (w_WD K q_p0 q_p0_bits q_p0_closings f_p0_bits f_p0_closings z_p0_bits z_p0_closings z_p0_pairs) ++ (w_WD K q_p1 q_p1_bits q_p1_closings f_p1_bits f_p1_closings z_p1_bits z_p1_closings z_p1_pairs)) (va_runV (As := [.ref q_p0, .ref q_t_leasts]) (rest := []) ⟨hx, hb, hml, hown, hws⟩ (ct_PA_writeL l dC dI K q_t q_t_pile q_t_leasts q_t_greatests q_t_former q_p0 q_p0_bits q_p0_closings f_t_pile f_t_leasts f_t_greatests f_t_former f_p0_bits f_p0_closings z_t_pile z_t_leasts z_t_greatests z_t_former z_p0_bits z_p0_closings z_p0_pairs q2 hq _) ⟨cb_PA_write hws rm_PA_writeL (hws _ km_PA_38) ⟨Nat.le_of_ble_eq_true rfl, Nat.le_of_ble_eq_true rfl⟩, hws _ ki_PA_write, hws _ ke_PA_PA_write_PA_write⟩ ⟨ct_blind _ _ _, va_recv (ci := 4) (q0 := 0) (q := (RPA, TPA, 4)) hK hP rfl rfl, ct_pre (cs := ((w_PA K q_t q_t_pile q_t_leasts q_t_greatests q_t_former f_t_pile f_t_leasts f_t_greatests f_t_former z_t_pile z_t_leasts z_t_greatests z_t_former) ++ (w_WD K q_p0 q_p0_bits q_p0_closings f_p0_bits f_p0_closings z_p0_bits z_p0_closings z_p0_pairs))) hP hD hK [0, 1, 2, 3, 4, 5, 6, 7] (by decide) rfl _⟩ rfl rfl hl.1 rfl (lv_room (Nat.le_of_ble_eq_true rfl)) dPA_tellComplement_11 ⟨Nat.le_of_ble_eq_true rfl, Nat.le_of_ble_eq_true rfl⟩) hP hD hS hA [0, 1, 2, 3, 4, 5, 6, 7] rfl rfl rfl rfl (fun H locs hP hD hS => ?_)
  have hP : va_P (dC, dI) vwCl ((w_PA K q_t q_t_pile q_t_leasts q_t_greatests q_t_former f_t_pile f_t_leasts f_t_greatests f_t_former q2.1 q2.2 z_t_greatests z_t_former) ++ (w_WD K q_p0 q_p0_bits q_p0_closings f_p0_bits f_p0_closings z_p0_bits z_p0_closings z_p0_pairs) ++ (w_WD K q_p1 q_p1_bits q_p1_closings f_p1_bits f_p1_closings z_p1_bits z_p1_closings z_p1_pairs)) H := hP
  have hD : va_D A ((w_PA K q_t q_t_pile q_t_leasts q_t_greatests q_t_former f_t_pile f_t_leasts f_t_greatests f_t_former q2.1 q2.2 z_t_greatests z_t_former) ++ (w_WD K q_p0 q_p0_bits q_p0_closings f_p0_bits f_p0_closings z_p0_bits z_p0_closings z_p0_pairs) ++ (w_WD K q_p1 q_p1_bits q_p1_closings f_p1_bits f_p1_closings z_p1_bits z_p1_closings z_p1_pairs)) := hD
  refine lv_iconst (v := nI 1) hx hb dPA_tellComplement_14 (by decide +kernel) ?_
  refine lv_istore hx hb dPA_tellComplement_15 hl (by decide) rfl (fun ls hl => ?_)
  have hf := fz_s hf
  have hf := fz_s hf
  exact IH.1 q1 1 q2.1 q2.2 z_t_former z_p1_closings _ _ _ hf (lv_sub hl [2, 4, 1, 0] rfl) hP hD hS
