def NL : List (String × Nat × MethodName) := [(RCW, 18, yPA_init), (RPA, 3, yFA_init), (RCW, 25, yTR_init), (RTR, 3, yFA_init), (RCW, 34, yBR_init), (RBR, 1, yFA_init), (RCW, 37, yBT_init), (RBT, 3, yFA_init), (RCW, 40, yPT_init), (RPT, 3, yFA_init), (RCW, 43, yPE_init), (RPE, 3, yFA_init), (RCW, 63, yWD_init), (RFG, 35, yWD_init)]
def nwN (U : State) : Prop := ∀ q ∈ NL, va_Nw (.methodLinkNest q.1 q.2.1 q.2.2 RCW) U
theorem nwN_same {u U : State} (h : u.vm = U.vm) (hE : nwN u) : nwN U := fun q hq => va_Nw.same rfl h (hE q hq)
theorem nwN_warm {s U : State} (hW : s.WarmedH U.vm) (hE : nwN s) : nwN U := fun q hq => va_Nw.warmM hW (hE q hq)
abbrev rm_FA_init : Room := { frames := 1, cells := 0, slots := 0, locals := 12 }
set_option maxHeartbeats 4000000 in
theorem ct_FA_init (l : Launch) (dC : Nat → ClassId) (dI : Nat → Nat → Nat) (K : Nat → ClassId) (q : Nat) (cs : va_W) : Ct l (dC, dI) vwCl yFA_init wc_FA_init rm_FA_init (tyK K) [.ref q] cs cs none := by
  intro sz
  refine Met.ofW (cc := cFA_init) (maxL := 1) (ret := none) (by decide) rfl ?_
  intro p e s m args below meth c s₁ B hml hv
  obtain ⟨rfl, hsz, hP, hK, hD0⟩ := hv
  have hx := B.exec
  have hb := B.bytes
  have hr := B.returns
  have hts := atoms_spec (ws := wc_FA_init) B.pre
  have hws : ∀ w ∈ WS, w.before _ s = true := fun w h => hts w (List.mem_cons_of_mem _ h)
  have hown : s.vm.findClass RFA = some m.cls := findClass_of_methodNamed B.named
  have hlocks := B.notSynchronized
  have hin : meth.name = "<init>" := (name_of_methodNamed B.named B.method).1
  subst hsz
  have hD := hD0.self (sz := s.heap.size)
  generalize hAe : va_A (cs) s.heap.size = A at hD ⊢
  have hA : ∀ q : Nat, s.heap.size ≤ q → A q := fun q h => by rw [← hAe]; exact Or.inr h
  have hS : va_S A s.heap s.heap [] := va_S.rf
  have hl := lv_entry ([.ref q]) (n := 1) (Nat.le_of_ble_eq_true rfl)
  rw [lg_entry_eq]
  generalize (lg_sl ([.ref q]) ++ List.replicate (1 - (lg_sl ([.ref q])).length) Slot.unset).toArray = ls at hl ⊢
  have hl : lv_has ls 1 [(0, .ref q)] := hl
  generalize ([.ref q] : List Value).toArray = args at hts hws ⊢
  generalize hQ : MQ below _ _ _ _ _ _ = Q
  refine lv_aload_n hx hb dFA_init_0 rfl (lv_at hl 0 rfl) ?_
  refine W.objInit hx hb hown (hws _ ko_FA_1) (hws _ ki_OB) (hws _ kc_OB) rfl (by rw [hml]; exact hl.1) rfl dFA_init_1 (Nat.le_of_ble_eq_true rfl) (Nat.le_of_ble_eq_true rfl) ?_
  refine W.eq (g2 := F0 m 4 ls []) rfl ?_
  rw [← hQ]
  exact W.vret hx hb hr (fun t ht hW => ⟨⟨rfl, by rw [ht]; exact hP⟩, hS.F ht⟩) hS.2.2 dFA_init_4
abbrev rm_BR_init : Room := { frames := 2, cells := 0, slots := 0, locals := 32 }
set_option maxHeartbeats 4000000 in
set_option maxRecDepth 100000 in
theorem cn_BR_init (l : Launch) (dC : Nat → ClassId) (dI : Nat → Nat → Nat) (K : Nat → ClassId) (q : Nat) : CtN nwN l (dC, dI) vwCl yBR_init wc_BR_init rm_BR_init (tyK K) [.ref q] [(q, .inr (1, []))] (fun _ => w_BR K q   ) := by
  intro sz
  refine Met.ofW (cc := cBR_init) (maxL := 1) (ret := none) (by decide) rfl ?_
  intro p e s m args below meth c s₁ B hml hv
  obtain ⟨rfl, hsz, hP, hK, hD0, hE⟩ := hv
  have hx := B.exec
  have hb := B.bytes
  have hr := B.returns
  have hts := atoms_spec (ws := wc_BR_init) B.pre
  have hws : ∀ w ∈ WS, w.before _ s = true := fun w h => hts w (List.mem_cons_of_mem _ h)
  have hown : s.vm.findClass RBR = some m.cls := findClass_of_methodNamed B.named
  have hlocks := B.notSynchronized
  have hin : meth.name = "<init>" := (name_of_methodNamed B.named B.method).1
  subst hsz
  have hD := hD0.self (sz := s.heap.size)
  generalize hAe : va_A ([(q, .inr (1, []))]) s.heap.size = A at hD ⊢
  have hA : ∀ q : Nat, s.heap.size ≤ q → A q := fun q h => by rw [← hAe]; exact Or.inr h
  have hS : va_S A s.heap s.heap [] := va_S.rf
  have hl := lv_entry ([.ref q]) (n := 1) (Nat.le_of_ble_eq_true rfl)
  rw [lg_entry_eq]
  generalize (lg_sl ([.ref q]) ++ List.replicate (1 - (lg_sl ([.ref q])).length) Slot.unset).toArray = ls at hl ⊢
  have hl : lv_has ls 1 [(0, .ref q)] := hl
  generalize ([.ref q] : List Value).toArray = args at hts hws ⊢
  generalize hQ : MQ below _ _ _ _ _ _ = Q
  refine lv_aload_n hx hb dBR_init_0 rfl (lv_at hl 0 rfl) ?_
  refine ct_callv (ws' := [(q, .inr (1, []))]) (va_runIN (As := []) (rest := []) ⟨hx, hb, hml, hown, hws⟩ (ct_FA_init l dC dI K q ([(q, .inr (1, []))]) _) ⟨va_cnB 0 hws (WS_gd kc_FA_init) rfl rfl rfl (hE (RBR, 1, yFA_init) (by decide +kernel)) (hws _ kz_FA) (by decide +kernel) ⟨Nat.le_of_ble_eq_true rfl, Nat.le_of_ble_eq_true rfl⟩, rfl, hws _ ki_FA_init⟩ ⟨ct_blind _ _ _, ct_pre hP hD hK [0] (by decide) rfl _⟩ rfl rfl hl.1 rfl (lv_room (Nat.le_of_ble_eq_true rfl)) dBR_init_1 ⟨Nat.le_of_ble_eq_true rfl, Nat.le_of_ble_eq_true rfl⟩) hP hD hS hA [0] rfl rfl rfl rfl (fun H locs hP hD hS => ?_)
  rw [← hQ]
  exact W.vret hx hb hr (fun t ht hW => ⟨⟨fun _ => 0, rfl, by rw [ht]; exact hP, hD⟩, hS.F ht⟩) hS.2.2 dBR_init_4
abbrev rm_BT_init : Room := { frames := 2, cells := 1, slots := 9, locals := 32 }
set_option maxHeartbeats 4000000 in
set_option maxRecDepth 100000 in
theorem cn_BT_init (l : Launch) (dC : Nat → ClassId) (dI : Nat → Nat → Nat) (K : Nat → ClassId) (q : Nat) : CtN nwN l (dC, dI) vwCl yBT_init wc_BT_init rm_BT_init (tyK K) [.ref q] [(q, .inr (0, [.null]))] (fun g => w_BT K q (g 0) zf 0) := by
  intro sz
  refine Met.ofW (cc := cBT_init) (maxL := 1) (ret := none) (by decide) rfl ?_
  intro p e s m args below meth c s₁ B hml hv
  obtain ⟨rfl, hsz, hP, hK, hD0, hE⟩ := hv
  have hx := B.exec
  have hb := B.bytes
  have hr := B.returns
  have hts := atoms_spec (ws := wc_BT_init) B.pre
  have hws : ∀ w ∈ WS, w.before _ s = true := fun w h => hts w (List.mem_cons_of_mem _ h)
  have hown : s.vm.findClass RBT = some m.cls := findClass_of_methodNamed B.named
  have hlocks := B.notSynchronized
  have hin : meth.name = "<init>" := (name_of_methodNamed B.named B.method).1
  subst hsz
  have hD := hD0.self (sz := s.heap.size)
  generalize hAe : va_A ([(q, .inr (0, [.null]))]) s.heap.size = A at hD ⊢
  have hA : ∀ q : Nat, s.heap.size ≤ q → A q := fun q h => by rw [← hAe]; exact Or.inr h
  have hS : va_S A s.heap s.heap [] := va_S.rf
  have hl := lv_entry ([.ref q]) (n := 1) (Nat.le_of_ble_eq_true rfl)
  rw [lg_entry_eq]
  generalize (lg_sl ([.ref q]) ++ List.replicate (1 - (lg_sl ([.ref q])).length) Slot.unset).toArray = ls at hl ⊢
  have hl : lv_has ls 1 [(0, .ref q)] := hl
  generalize ([.ref q] : List Value).toArray = args at hts hws ⊢
  generalize hQ : MQ below _ _ _ _ _ _ = Q
  refine lv_aload_n hx hb dBT_init_0 rfl (lv_at hl 0 rfl) ?_
  refine ct_callv (ws' := [(q, .inr (0, [.null]))]) (va_runIN (As := []) (rest := []) ⟨hx, hb, hml, hown, hws⟩ (ct_FA_init l dC dI K q ([(q, .inr (0, [.null]))]) _) ⟨va_cnB 0 hws (WS_gd kc_FA_init) rfl rfl rfl (hE (RBT, 3, yFA_init) (by decide +kernel)) (hws _ kz_FA) (by decide +kernel) ⟨Nat.le_of_ble_eq_true rfl, Nat.le_of_ble_eq_true rfl⟩, rfl, hws _ ki_FA_init⟩ ⟨ct_blind _ _ _, ct_pre hP hD hK [0] (by decide) rfl _⟩ rfl rfl hl.1 rfl (lv_room (Nat.le_of_ble_eq_true rfl)) dBT_init_1 ⟨Nat.le_of_ble_eq_true rfl, Nat.le_of_ble_eq_true rfl⟩) hP hD hS hA [0] rfl rfl rfl rfl (fun H locs hP hD hS => ?_)
  refine lv_aload_n hx hb dBT_init_4 rfl (lv_at hl 0 rfl) ?_
  refine lv_bipush (v := nI 9) hx hb dBT_init_5 (by decide +kernel) ?_
  refine lx_newa hx hb (hws _ ka_int) 0 rfl hK hP hD hS hA (by decide) (by rw [show (headSpec wc_BT_init rm_BT_init).room.cells = 1 from rfl]; omega) (by rw [show (headSpec wc_BT_init rm_BT_init).room.slots = 9 from rfl]; omega) dBT_init_7 (fun a7 H hP hD hS => ?_)
  have hP : va_P (dC, dI) vwCl ([(q, .inr (0, [.null])), (a7, .inl (K 0, 9, .inl (ar zf 0)))]) H := hP
  have hD : va_D A ([(q, .inr (0, [.null])), (a7, .inl (K 0, 9, .inl (ar zf 0)))]) := hD
  refine W.widen (k := 1) (n := 9) (by omega) (by omega) ?_
  refine va_putF (D := (dC, dI)) (ci := 0) (v := .ref a7) (ty := (.array .int)) (C := RBT) (T := TBT) (N := 1) hx hb hws uwBT tyBT okBT nmBT hown hK hP hD hS 0 rfl rfl 0 (by decide) (hws _ kf_BT_9) (fun _ h9 => h9) rfl hin rfl (by decide +kernel) rfl rfl (Nat.le_of_ble_eq_true rfl) dBT_init_9 (fun H locs hP hD hS => ?_)
  have hP : va_P (dC, dI) vwCl ([(q, .inr (0, [.ref a7])), (a7, .inl (K 0, 9, .inl (ar zf 0)))]) H := hP
  have hD : va_D A ([(q, .inr (0, [.ref a7])), (a7, .inl (K 0, 9, .inl (ar zf 0)))]) := hD
  rw [← hQ]
  exact W.vret hx hb hr (fun t ht hW => ⟨⟨fun _ => a7, rfl, by rw [ht]; exact hP, hD⟩, hS.F ht⟩) hS.2.2 dBT_init_12
abbrev rm_PT_init : Room := { frames := 2, cells := 1, slots := 10, locals := 32 }
set_option maxHeartbeats 4000000 in
set_option maxRecDepth 100000 in
theorem cn_PT_init (l : Launch) (dC : Nat → ClassId) (dI : Nat → Nat → Nat) (K : Nat → ClassId) (q : Nat) : CtN nwN l (dC, dI) vwCl yPT_init wc_PT_init rm_PT_init (tyK K) [.ref q] [(q, .inr (2, [.null]))] (fun g => w_PT K q (g 0) zf 0) := by
  intro sz
  refine Met.ofW (cc := cPT_init) (maxL := 1) (ret := none) (by decide) rfl ?_
  intro p e s m args below meth c s₁ B hml hv
  obtain ⟨rfl, hsz, hP, hK, hD0, hE⟩ := hv
  have hx := B.exec
  have hb := B.bytes
  have hr := B.returns
  have hts := atoms_spec (ws := wc_PT_init) B.pre
  have hws : ∀ w ∈ WS, w.before _ s = true := fun w h => hts w (List.mem_cons_of_mem _ h)
  have hown : s.vm.findClass RPT = some m.cls := findClass_of_methodNamed B.named
  have hlocks := B.notSynchronized
  have hin : meth.name = "<init>" := (name_of_methodNamed B.named B.method).1
  subst hsz
  have hD := hD0.self (sz := s.heap.size)
  generalize hAe : va_A ([(q, .inr (2, [.null]))]) s.heap.size = A at hD ⊢
  have hA : ∀ q : Nat, s.heap.size ≤ q → A q := fun q h => by rw [← hAe]; exact Or.inr h
  have hS : va_S A s.heap s.heap [] := va_S.rf
  have hl := lv_entry ([.ref q]) (n := 1) (Nat.le_of_ble_eq_true rfl)
  rw [lg_entry_eq]
  generalize (lg_sl ([.ref q]) ++ List.replicate (1 - (lg_sl ([.ref q])).length) Slot.unset).toArray = ls at hl ⊢
  have hl : lv_has ls 1 [(0, .ref q)] := hl
  generalize ([.ref q] : List Value).toArray = args at hts hws ⊢
  generalize hQ : MQ below _ _ _ _ _ _ = Q
  refine lv_aload_n hx hb dPT_init_0 rfl (lv_at hl 0 rfl) ?_
  refine ct_callv (ws' := [(q, .inr (2, [.null]))]) (va_runIN (As := []) (rest := []) ⟨hx, hb, hml, hown, hws⟩ (ct_FA_init l dC dI K q ([(q, .inr (2, [.null]))]) _) ⟨va_cnB 0 hws (WS_gd kc_FA_init) rfl rfl rfl (hE (RPT, 3, yFA_init) (by decide +kernel)) (hws _ kz_FA) (by decide +kernel) ⟨Nat.le_of_ble_eq_true rfl, Nat.le_of_ble_eq_true rfl⟩, rfl, hws _ ki_FA_init⟩ ⟨ct_blind _ _ _, ct_pre hP hD hK [0] (by decide) rfl _⟩ rfl rfl hl.1 rfl (lv_room (Nat.le_of_ble_eq_true rfl)) dPT_init_1 ⟨Nat.le_of_ble_eq_true rfl, Nat.le_of_ble_eq_true rfl⟩) hP hD hS hA [0] rfl rfl rfl rfl (fun H locs hP hD hS => ?_)
  refine lv_aload_n hx hb dPT_init_4 rfl (lv_at hl 0 rfl) ?_
  refine lv_bipush (v := nI 10) hx hb dPT_init_5 (by decide +kernel) ?_
  refine lx_newa hx hb (hws _ ka_int) 0 rfl hK hP hD hS hA (by decide) (by rw [show (headSpec wc_PT_init rm_PT_init).room.cells = 1 from rfl]; omega) (by rw [show (headSpec wc_PT_init rm_PT_init).room.slots = 10 from rfl]; omega) dPT_init_7 (fun a7 H hP hD hS => ?_)
  have hP : va_P (dC, dI) vwCl ([(q, .inr (2, [.null])), (a7, .inl (K 0, 10, .inl (ar zf 0)))]) H := hP
  have hD : va_D A ([(q, .inr (2, [.null])), (a7, .inl (K 0, 10, .inl (ar zf 0)))]) := hD
  refine W.widen (k := 1) (n := 10) (by omega) (by omega) ?_
  refine va_putF (D := (dC, dI)) (ci := 2) (v := .ref a7) (ty := (.array .int)) (C := RPT) (T := TPT) (N := 1) hx hb hws uwPT tyPT okPT nmPT hown hK hP hD hS 0 rfl rfl 0 (by decide) (hws _ kf_PT_9) (fun _ h9 => h9) rfl hin rfl (by decide +kernel) rfl rfl (Nat.le_of_ble_eq_true rfl) dPT_init_9 (fun H locs hP hD hS => ?_)
  have hP : va_P (dC, dI) vwCl ([(q, .inr (2, [.ref a7])), (a7, .inl (K 0, 10, .inl (ar zf 0)))]) H := hP
  have hD : va_D A ([(q, .inr (2, [.ref a7])), (a7, .inl (K 0, 10, .inl (ar zf 0)))]) := hD
  rw [← hQ]
  exact W.vret hx hb hr (fun t ht hW => ⟨⟨fun _ => a7, rfl, by rw [ht]; exact hP, hD⟩, hS.F ht⟩) hS.2.2 dPT_init_12
abbrev rm_PE_init : Room := { frames := 2, cells := 1, slots := 10, locals := 32 }
set_option maxHeartbeats 4000000 in
set_option maxRecDepth 100000 in
theorem cn_PE_init (l : Launch) (dC : Nat → ClassId) (dI : Nat → Nat → Nat) (K : Nat → ClassId) (q : Nat) : CtN nwN l (dC, dI) vwCl yPE_init wc_PE_init rm_PE_init (tyK K) [.ref q] [(q, .inr (5, [.null]))] (fun g => w_PE K q (g 0) zf 0) := by
  intro sz
  refine Met.ofW (cc := cPE_init) (maxL := 1) (ret := none) (by decide) rfl ?_
  intro p e s m args below meth c s₁ B hml hv
  obtain ⟨rfl, hsz, hP, hK, hD0, hE⟩ := hv
  have hx := B.exec
  have hb := B.bytes
  have hr := B.returns
  have hts := atoms_spec (ws := wc_PE_init) B.pre
  have hws : ∀ w ∈ WS, w.before _ s = true := fun w h => hts w (List.mem_cons_of_mem _ h)
  have hown : s.vm.findClass RPE = some m.cls := findClass_of_methodNamed B.named
  have hlocks := B.notSynchronized
  have hin : meth.name = "<init>" := (name_of_methodNamed B.named B.method).1
  subst hsz
  have hD := hD0.self (sz := s.heap.size)
  generalize hAe : va_A ([(q, .inr (5, [.null]))]) s.heap.size = A at hD ⊢
  have hA : ∀ q : Nat, s.heap.size ≤ q → A q := fun q h => by rw [← hAe]; exact Or.inr h
  have hS : va_S A s.heap s.heap [] := va_S.rf
  have hl := lv_entry ([.ref q]) (n := 1) (Nat.le_of_ble_eq_true rfl)
  rw [lg_entry_eq]
  generalize (lg_sl ([.ref q]) ++ List.replicate (1 - (lg_sl ([.ref q])).length) Slot.unset).toArray = ls at hl ⊢
  have hl : lv_has ls 1 [(0, .ref q)] := hl
  generalize ([.ref q] : List Value).toArray = args at hts hws ⊢
  generalize hQ : MQ below _ _ _ _ _ _ = Q
  refine lv_aload_n hx hb dPE_init_0 rfl (lv_at hl 0 rfl) ?_
  refine ct_callv (ws' := [(q, .inr (5, [.null]))]) (va_runIN (As := []) (rest := []) ⟨hx, hb, hml, hown, hws⟩ (ct_FA_init l dC dI K q ([(q, .inr (5, [.null]))]) _) ⟨va_cnB 0 hws (WS_gd kc_FA_init) rfl rfl rfl (hE (RPE, 3, yFA_init) (by decide +kernel)) (hws _ kz_FA) (by decide +kernel) ⟨Nat.le_of_ble_eq_true rfl, Nat.le_of_ble_eq_true rfl⟩, rfl, hws _ ki_FA_init⟩ ⟨ct_blind _ _ _, ct_pre hP hD hK [0] (by decide) rfl _⟩ rfl rfl hl.1 rfl (lv_room (Nat.le_of_ble_eq_true rfl)) dPE_init_1 ⟨Nat.le_of_ble_eq_true rfl, Nat.le_of_ble_eq_true rfl⟩) hP hD hS hA [0] rfl rfl rfl rfl (fun H locs hP hD hS => ?_)
  refine lv_aload_n hx hb dPE_init_4 rfl (lv_at hl 0 rfl) ?_
  refine lv_bipush (v := nI 10) hx hb dPE_init_5 (by decide +kernel) ?_
  refine lx_newa hx hb (hws _ ka_int) 0 rfl hK hP hD hS hA (by decide) (by rw [show (headSpec wc_PE_init rm_PE_init).room.cells = 1 from rfl]; omega) (by rw [show (headSpec wc_PE_init rm_PE_init).room.slots = 10 from rfl]; omega) dPE_init_7 (fun a7 H hP hD hS => ?_)
  have hP : va_P (dC, dI) vwCl ([(q, .inr (5, [.null])), (a7, .inl (K 0, 10, .inl (ar zf 0)))]) H := hP
  have hD : va_D A ([(q, .inr (5, [.null])), (a7, .inl (K 0, 10, .inl (ar zf 0)))]) := hD
  refine W.widen (k := 1) (n := 10) (by omega) (by omega) ?_
  refine va_putF (D := (dC, dI)) (ci := 5) (v := .ref a7) (ty := (.array .int)) (C := RPE) (T := TPE) (N := 1) hx hb hws uwPE tyPE okPE nmPE hown hK hP hD hS 0 rfl rfl 0 (by decide) (hws _ kf_PE_9) (fun _ h9 => h9) rfl hin rfl (by decide +kernel) rfl rfl (Nat.le_of_ble_eq_true rfl) dPE_init_9 (fun H locs hP hD hS => ?_)
  have hP : va_P (dC, dI) vwCl ([(q, .inr (5, [.ref a7])), (a7, .inl (K 0, 10, .inl (ar zf 0)))]) H := hP
  have hD : va_D A ([(q, .inr (5, [.ref a7])), (a7, .inl (K 0, 10, .inl (ar zf 0)))]) := hD
  rw [← hQ]
  exact W.vret hx hb hr (fun t ht hW => ⟨⟨fun _ => a7, rfl, by rw [ht]; exact hP, hD⟩, hS.F ht⟩) hS.2.2 dPE_init_12
abbrev rm_PA_init : Room := { frames := 2, cells := 4, slots := 38, locals := 32 }
set_option maxHeartbeats 4000000 in
set_option maxRecDepth 100000 in
theorem cn_PA_init (l : Launch) (dC : Nat → ClassId) (dI : Nat → Nat → Nat) (K : Nat → ClassId) (q : Nat) : CtN nwN l (dC, dI) vwCl yPA_init wc_PA_init rm_PA_init (tyK K) [.ref q] [(q, .inr (4, [.null, .null, .null, .null]))] (fun g => w_PA K q (g 0) (g 1) (g 2) (g 3) zf zf zf zf 0 0 0 0) := by
  intro sz
  refine Met.ofW (cc := cPA_init) (maxL := 1) (ret := none) (by decide) rfl ?_
  intro p e s m args below meth c s₁ B hml hv
  obtain ⟨rfl, hsz, hP, hK, hD0, hE⟩ := hv
  have hx := B.exec
  have hb := B.bytes
  have hr := B.returns
  have hts := atoms_spec (ws := wc_PA_init) B.pre
  have hws : ∀ w ∈ WS, w.before _ s = true := fun w h => hts w (List.mem_cons_of_mem _ h)
  have hown : s.vm.findClass RPA = some m.cls := findClass_of_methodNamed B.named
  have hlocks := B.notSynchronized
  have hin : meth.name = "<init>" := (name_of_methodNamed B.named B.method).1
  subst hsz
  have hD := hD0.self (sz := s.heap.size)
  generalize hAe : va_A ([(q, .inr (4, [.null, .null, .null, .null]))]) s.heap.size = A at hD ⊢
  have hA : ∀ q : Nat, s.heap.size ≤ q → A q := fun q h => by rw [← hAe]; exact Or.inr h
  have hS : va_S A s.heap s.heap [] := va_S.rf
  have hl := lv_entry ([.ref q]) (n := 1) (Nat.le_of_ble_eq_true rfl)
  rw [lg_entry_eq]
  generalize (lg_sl ([.ref q]) ++ List.replicate (1 - (lg_sl ([.ref q])).length) Slot.unset).toArray = ls at hl ⊢
  have hl : lv_has ls 1 [(0, .ref q)] := hl
  generalize ([.ref q] : List Value).toArray = args at hts hws ⊢
  generalize hQ : MQ below _ _ _ _ _ _ = Q
  refine lv_aload_n hx hb dPA_init_0 rfl (lv_at hl 0 rfl) ?_
  refine ct_callv (ws' := [(q, .inr (4, [.null, .null, .null, .null]))]) (va_runIN (As := []) (rest := []) ⟨hx, hb, hml, hown, hws⟩ (ct_FA_init l dC dI K q ([(q, .inr (4, [.null, .null, .null, .null]))]) _) ⟨va_cnB 0 hws (WS_gd kc_FA_init) rfl rfl rfl (hE (RPA, 3, yFA_init) (by decide +kernel)) (hws _ kz_FA) (by decide +kernel) ⟨Nat.le_of_ble_eq_true rfl, Nat.le_of_ble_eq_true rfl⟩, rfl, hws _ ki_FA_init⟩ ⟨ct_blind _ _ _, ct_pre hP hD hK [0] (by decide) rfl _⟩ rfl rfl hl.1 rfl (lv_room (Nat.le_of_ble_eq_true rfl)) dPA_init_1 ⟨Nat.le_of_ble_eq_true rfl, Nat.le_of_ble_eq_true rfl⟩) hP hD hS hA [0] rfl rfl rfl rfl (fun H locs hP hD hS => ?_)
  refine lv_aload_n hx hb dPA_init_4 rfl (lv_at hl 0 rfl) ?_
  refine lv_bipush (v := nI 9) hx hb dPA_init_5 (by decide +kernel) ?_
  refine lx_newa hx hb (hws _ ka_int) 0 rfl hK hP hD hS hA (by decide) (by rw [show (headSpec wc_PA_init rm_PA_init).room.cells = 4 from rfl]; omega) (by rw [show (headSpec wc_PA_init rm_PA_init).room.slots = 38 from rfl]; omega) dPA_init_7 (fun a7 H hP hD hS => ?_)
  have hP : va_P (dC, dI) vwCl ([(q, .inr (4, [.null, .null, .null, .null])), (a7, .inl (K 0, 9, .inl (ar zf 0)))]) H := hP
  have hD : va_D A ([(q, .inr (4, [.null, .null, .null, .null])), (a7, .inl (K 0, 9, .inl (ar zf 0)))]) := hD
  refine W.widen (k := 1) (n := 9) (by omega) (by omega) ?_
  refine va_putF (D := (dC, dI)) (ci := 4) (v := .ref a7) (ty := (.array .int)) (C := RPA) (T := TPA) (N := 4) hx hb hws uwPA tyPA okPA nmPA hown hK hP hD hS 0 rfl rfl 0 (by decide) (hws _ kf_PA_9) (fun _ h9 => h9) rfl hin rfl (by decide +kernel) rfl rfl (Nat.le_of_ble_eq_true rfl) dPA_init_9 (fun H locs hP hD hS => ?_)
  have hP : va_P (dC, dI) vwCl ([(q, .inr (4, [.ref a7, .null, .null, .null])), (a7, .inl (K 0, 9, .inl (ar zf 0)))]) H := hP
  have hD : va_D A ([(q, .inr (4, [.ref a7, .null, .null, .null])), (a7, .inl (K 0, 9, .inl (ar zf 0)))]) := hD
  refine lv_aload_n hx hb dPA_init_12 rfl (lv_at hl 0 rfl) ?_
  refine lv_bipush (v := nI 9) hx hb dPA_init_13 (by decide +kernel) ?_
  refine lx_newa hx hb (hws _ ka_int) 0 rfl hK hP hD hS hA (by decide) (by rw [show (headSpec wc_PA_init rm_PA_init).room.cells = 4 from rfl]; omega) (by rw [show (headSpec wc_PA_init rm_PA_init).room.slots = 38 from rfl]; omega) dPA_init_15 (fun a15 H hP hD hS => ?_)
  have hP : va_P (dC, dI) vwCl ([(q, .inr (4, [.ref a7, .null, .null, .null])), (a7, .inl (K 0, 9, .inl (ar zf 0))), (a15, .inl (K 0, 9, .inl (ar zf 0)))]) H := hP
  have hD : va_D A ([(q, .inr (4, [.ref a7, .null, .null, .null])), (a7, .inl (K 0, 9, .inl (ar zf 0))), (a15, .inl (K 0, 9, .inl (ar zf 0)))]) := hD
  refine W.widen (k := 2) (n := 18) (by omega) (by omega) ?_
  refine va_putF (D := (dC, dI)) (ci := 4) (v := .ref a15) (ty := (.array .int)) (C := RPA) (T := TPA) (N := 4) hx hb hws uwPA tyPA okPA nmPA hown hK hP hD hS 0 rfl rfl 1 (by decide) (hws _ kf_PA_15) (fun _ h9 => h9) rfl hin rfl (by decide +kernel) rfl rfl (Nat.le_of_ble_eq_true rfl) dPA_init_17 (fun H locs hP hD hS => ?_)
  have hP : va_P (dC, dI) vwCl ([(q, .inr (4, [.ref a7, .ref a15, .null, .null])), (a7, .inl (K 0, 9, .inl (ar zf 0))), (a15, .inl (K 0, 9, .inl (ar zf 0)))]) H := hP
  have hD : va_D A ([(q, .inr (4, [.ref a7, .ref a15, .null, .null])), (a7, .inl (K 0, 9, .inl (ar zf 0))), (a15, .inl (K 0, 9, .inl (ar zf 0)))]) := hD
  refine lv_aload_n hx hb dPA_init_20 rfl (lv_at hl 0 rfl) ?_
  refine lv_bipush (v := nI 10) hx hb dPA_init_21 (by decide +kernel) ?_
  refine lx_newa hx hb (hws _ ka_int) 0 rfl hK hP hD hS hA (by decide) (by rw [show (headSpec wc_PA_init rm_PA_init).room.cells = 4 from rfl]; omega) (by rw [show (headSpec wc_PA_init rm_PA_init).room.slots = 38 from rfl]; omega) dPA_init_23 (fun a23 H hP hD hS => ?_)
  have hP : va_P (dC, dI) vwCl ([(q, .inr (4, [.ref a7, .ref a15, .null, .null])), (a7, .inl (K 0, 9, .inl (ar zf 0))), (a15, .inl (K 0, 9, .inl (ar zf 0))), (a23, .inl (K 0, 10, .inl (ar zf 0)))]) H := hP
  have hD : va_D A ([(q, .inr (4, [.ref a7, .ref a15, .null, .null])), (a7, .inl (K 0, 9, .inl (ar zf 0))), (a15, .inl (K 0, 9, .inl (ar zf 0))), (a23, .inl (K 0, 10, .inl (ar zf 0)))]) := hD
  refine W.widen (k := 3) (n := 28) (by omega) (by omega) ?_
  refine va_putF (D := (dC, dI)) (ci := 4) (v := .ref a23) (ty := (.array .int)) (C := RPA) (T := TPA) (N := 4) hx hb hws uwPA tyPA okPA nmPA hown hK hP hD hS 0 rfl rfl 2 (by decide) (hws _ kf_PA_18) (fun _ h9 => h9) rfl hin rfl (by decide +kernel) rfl rfl (Nat.le_of_ble_eq_true rfl) dPA_init_25 (fun H locs hP hD hS => ?_)
  have hP : va_P (dC, dI) vwCl ([(q, .inr (4, [.ref a7, .ref a15, .ref a23, .null])), (a7, .inl (K 0, 9, .inl (ar zf 0))), (a15, .inl (K 0, 9, .inl (ar zf 0))), (a23, .inl (K 0, 10, .inl (ar zf 0)))]) H := hP
  have hD : va_D A ([(q, .inr (4, [.ref a7, .ref a15, .ref a23, .null])), (a7, .inl (K 0, 9, .inl (ar zf 0))), (a15, .inl (K 0, 9, .inl (ar zf 0))), (a23, .inl (K 0, 10, .inl (ar zf 0)))]) := hD
  refine lv_aload_n hx hb dPA_init_28 rfl (lv_at hl 0 rfl) ?_
  refine lv_bipush (v := nI 10) hx hb dPA_init_29 (by decide +kernel) ?_
  refine lx_newa hx hb (hws _ ka_int) 0 rfl hK hP hD hS hA (by decide) (by rw [show (headSpec wc_PA_init rm_PA_init).room.cells = 4 from rfl]; omega) (by rw [show (headSpec wc_PA_init rm_PA_init).room.slots = 38 from rfl]; omega) dPA_init_31 (fun a31 H hP hD hS => ?_)
  have hP : va_P (dC, dI) vwCl ([(q, .inr (4, [.ref a7, .ref a15, .ref a23, .null])), (a7, .inl (K 0, 9, .inl (ar zf 0))), (a15, .inl (K 0, 9, .inl (ar zf 0))), (a23, .inl (K 0, 10, .inl (ar zf 0))), (a31, .inl (K 0, 10, .inl (ar zf 0)))]) H := hP
  have hD : va_D A ([(q, .inr (4, [.ref a7, .ref a15, .ref a23, .null])), (a7, .inl (K 0, 9, .inl (ar zf 0))), (a15, .inl (K 0, 9, .inl (ar zf 0))), (a23, .inl (K 0, 10, .inl (ar zf 0))), (a31, .inl (K 0, 10, .inl (ar zf 0)))]) := hD
  refine W.widen (k := 4) (n := 38) (by omega) (by omega) ?_
  refine va_putF (D := (dC, dI)) (ci := 4) (v := .ref a31) (ty := (.array .int)) (C := RPA) (T := TPA) (N := 4) hx hb hws uwPA tyPA okPA nmPA hown hK hP hD hS 0 rfl rfl 3 (by decide) (hws _ kf_PA_21) (fun _ h9 => h9) rfl hin rfl (by decide +kernel) rfl rfl (Nat.le_of_ble_eq_true rfl) dPA_init_33 (fun H locs hP hD hS => ?_)
  have hP : va_P (dC, dI) vwCl ([(q, .inr (4, [.ref a7, .ref a15, .ref a23, .ref a31])), (a7, .inl (K 0, 9, .inl (ar zf 0))), (a15, .inl (K 0, 9, .inl (ar zf 0))), (a23, .inl (K 0, 10, .inl (ar zf 0))), (a31, .inl (K 0, 10, .inl (ar zf 0)))]) H := hP
  have hD : va_D A ([(q, .inr (4, [.ref a7, .ref a15, .ref a23, .ref a31])), (a7, .inl (K 0, 9, .inl (ar zf 0))), (a15, .inl (K 0, 9, .inl (ar zf 0))), (a23, .inl (K 0, 10, .inl (ar zf 0))), (a31, .inl (K 0, 10, .inl (ar zf 0)))]) := hD
  rw [← hQ]
  exact W.vret hx hb hr (fun t ht hW => ⟨⟨fun i => match i with | 0 => a7 | 1 => a15 | 2 => a23 | _ => a31, rfl, by rw [ht]; exact hP, hD⟩, hS.F ht⟩) hS.2.2 dPA_init_36
abbrev rm_TR_init : Room := { frames := 2, cells := 2, slots := 18, locals := 32 }
set_option maxHeartbeats 4000000 in
set_option maxRecDepth 100000 in
theorem cn_TR_init (l : Launch) (dC : Nat → ClassId) (dI : Nat → Nat → Nat) (K : Nat → ClassId) (q : Nat) : CtN nwN l (dC, dI) vwCl yTR_init wc_TR_init rm_TR_init (tyK K) [.ref q] [(q, .inr (3, [.null, .null, .int 0]))] (fun g => w_TR K q (g 0) (g 1) zf zf 0 0 0) := by
  intro sz
  refine Met.ofW (cc := cTR_init) (maxL := 1) (ret := none) (by decide) rfl ?_
  intro p e s m args below meth c s₁ B hml hv
  obtain ⟨rfl, hsz, hP, hK, hD0, hE⟩ := hv
  have hx := B.exec
  have hb := B.bytes
  have hr := B.returns
  have hts := atoms_spec (ws := wc_TR_init) B.pre
  have hws : ∀ w ∈ WS, w.before _ s = true := fun w h => hts w (List.mem_cons_of_mem _ h)
  have hown : s.vm.findClass RTR = some m.cls := findClass_of_methodNamed B.named
  have hlocks := B.notSynchronized
  have hin : meth.name = "<init>" := (name_of_methodNamed B.named B.method).1
  subst hsz
  have hD := hD0.self (sz := s.heap.size)
  generalize hAe : va_A ([(q, .inr (3, [.null, .null, .int 0]))]) s.heap.size = A at hD ⊢
  have hA : ∀ q : Nat, s.heap.size ≤ q → A q := fun q h => by rw [← hAe]; exact Or.inr h
  have hS : va_S A s.heap s.heap [] := va_S.rf
  have hl := lv_entry ([.ref q]) (n := 1) (Nat.le_of_ble_eq_true rfl)
  rw [lg_entry_eq]
  generalize (lg_sl ([.ref q]) ++ List.replicate (1 - (lg_sl ([.ref q])).length) Slot.unset).toArray = ls at hl ⊢
  have hl : lv_has ls 1 [(0, .ref q)] := hl
  generalize ([.ref q] : List Value).toArray = args at hts hws ⊢
  generalize hQ : MQ below _ _ _ _ _ _ = Q
  refine lv_aload_n hx hb dTR_init_0 rfl (lv_at hl 0 rfl) ?_
  refine ct_callv (ws' := [(q, .inr (3, [.null, .null, .int 0]))]) (va_runIN (As := []) (rest := []) ⟨hx, hb, hml, hown, hws⟩ (ct_FA_init l dC dI K q ([(q, .inr (3, [.null, .null, .int 0]))]) _) ⟨va_cnB 0 hws (WS_gd kc_FA_init) rfl rfl rfl (hE (RTR, 3, yFA_init) (by decide +kernel)) (hws _ kz_FA) (by decide +kernel) ⟨Nat.le_of_ble_eq_true rfl, Nat.le_of_ble_eq_true rfl⟩, rfl, hws _ ki_FA_init⟩ ⟨ct_blind _ _ _, ct_pre hP hD hK [0] (by decide) rfl _⟩ rfl rfl hl.1 rfl (lv_room (Nat.le_of_ble_eq_true rfl)) dTR_init_1 ⟨Nat.le_of_ble_eq_true rfl, Nat.le_of_ble_eq_true rfl⟩) hP hD hS hA [0] rfl rfl rfl rfl (fun H locs hP hD hS => ?_)
  refine lv_aload_n hx hb dTR_init_4 rfl (lv_at hl 0 rfl) ?_
  refine lv_bipush (v := nI 9) hx hb dTR_init_5 (by decide +kernel) ?_
  refine lx_newa hx hb (hws _ ka_int) 0 rfl hK hP hD hS hA (by decide) (by rw [show (headSpec wc_TR_init rm_TR_init).room.cells = 2 from rfl]; omega) (by rw [show (headSpec wc_TR_init rm_TR_init).room.slots = 18 from rfl]; omega) dTR_init_7 (fun a7 H hP hD hS => ?_)
  have hP : va_P (dC, dI) vwCl ([(q, .inr (3, [.null, .null, .int 0])), (a7, .inl (K 0, 9, .inl (ar zf 0)))]) H := hP
  have hD : va_D A ([(q, .inr (3, [.null, .null, .int 0])), (a7, .inl (K 0, 9, .inl (ar zf 0)))]) := hD
  refine W.widen (k := 1) (n := 9) (by omega) (by omega) ?_
  refine va_putF (D := (dC, dI)) (ci := 3) (v := .ref a7) (ty := (.array .int)) (C := RTR) (T := TTR) (N := 3) hx hb hws uwTR tyTR okTR nmTR hown hK hP hD hS 0 rfl rfl 0 (by decide) (hws _ kf_TR_9) (fun _ h9 => h9) rfl hin rfl (by decide +kernel) rfl rfl (Nat.le_of_ble_eq_true rfl) dTR_init_9 (fun H locs hP hD hS => ?_)
  have hP : va_P (dC, dI) vwCl ([(q, .inr (3, [.ref a7, .null, .int 0])), (a7, .inl (K 0, 9, .inl (ar zf 0)))]) H := hP
  have hD : va_D A ([(q, .inr (3, [.ref a7, .null, .int 0])), (a7, .inl (K 0, 9, .inl (ar zf 0)))]) := hD
  refine lv_aload_n hx hb dTR_init_12 rfl (lv_at hl 0 rfl) ?_
  refine lv_bipush (v := nI 9) hx hb dTR_init_13 (by decide +kernel) ?_
  refine lx_newa hx hb (hws _ ka_int) 0 rfl hK hP hD hS hA (by decide) (by rw [show (headSpec wc_TR_init rm_TR_init).room.cells = 2 from rfl]; omega) (by rw [show (headSpec wc_TR_init rm_TR_init).room.slots = 18 from rfl]; omega) dTR_init_15 (fun a15 H hP hD hS => ?_)
  have hP : va_P (dC, dI) vwCl ([(q, .inr (3, [.ref a7, .null, .int 0])), (a7, .inl (K 0, 9, .inl (ar zf 0))), (a15, .inl (K 0, 9, .inl (ar zf 0)))]) H := hP
  have hD : va_D A ([(q, .inr (3, [.ref a7, .null, .int 0])), (a7, .inl (K 0, 9, .inl (ar zf 0))), (a15, .inl (K 0, 9, .inl (ar zf 0)))]) := hD
  refine W.widen (k := 2) (n := 18) (by omega) (by omega) ?_
  refine va_putF (D := (dC, dI)) (ci := 3) (v := .ref a15) (ty := (.array .int)) (C := RTR) (T := TTR) (N := 3) hx hb hws uwTR tyTR okTR nmTR hown hK hP hD hS 0 rfl rfl 1 (by decide) (hws _ kf_TR_15) (fun _ h9 => h9) rfl hin rfl (by decide +kernel) rfl rfl (Nat.le_of_ble_eq_true rfl) dTR_init_17 (fun H locs hP hD hS => ?_)
  have hP : va_P (dC, dI) vwCl ([(q, .inr (3, [.ref a7, .ref a15, .int 0])), (a7, .inl (K 0, 9, .inl (ar zf 0))), (a15, .inl (K 0, 9, .inl (ar zf 0)))]) H := hP
  have hD : va_D A ([(q, .inr (3, [.ref a7, .ref a15, .int 0])), (a7, .inl (K 0, 9, .inl (ar zf 0))), (a15, .inl (K 0, 9, .inl (ar zf 0)))]) := hD
  refine lv_aload_n hx hb dTR_init_20 rfl (lv_at hl 0 rfl) ?_
  refine lv_iconst (v := nI 0) hx hb dTR_init_21 (by decide +kernel) ?_
  refine va_put (D := (dC, dI)) (ci := 3) (v := .int (nI 0)) (ty := .int) (C := RTR) (T := TTR) (N := 3) hx hb hws uwTR tyTR okTR nmTR hown hK hP hD hS 0 rfl rfl 2 (by decide) (hws _ kf_TR_18) (fun _ h9 => h9) rfl (by decide +kernel) rfl rfl (Nat.le_of_ble_eq_true rfl) dTR_init_22 (fun H locs hP hD hS => ?_)
  have hP : va_P (dC, dI) vwCl ([(q, .inr (3, [.ref a7, .ref a15, .int (nI 0)])), (a7, .inl (K 0, 9, .inl (ar zf 0))), (a15, .inl (K 0, 9, .inl (ar zf 0)))]) H := hP
  have hD : va_D A ([(q, .inr (3, [.ref a7, .ref a15, .int (nI 0)])), (a7, .inl (K 0, 9, .inl (ar zf 0))), (a15, .inl (K 0, 9, .inl (ar zf 0)))]) := hD
  rw [← hQ]
  exact W.vret hx hb hr (fun t ht hW => ⟨⟨fun i => match i with | 0 => a7 | _ => a15, rfl, by rw [ht]; exact hP, hD⟩, hS.F ht⟩) hS.2.2 dTR_init_25
