abbrev wc_LW_size : List Cond := Cond.codeWith yLW_size cLW_size 4 (some .int) [(0, 9, 12, 13)] :: WS
set_option maxHeartbeats 1000000 in
theorem hr_size (l : Launch) (dC : Nat → ClassId) (dI : Nat → Nat → Nat) (K : Nat → ClassId) (q_x q_o x0 : Nat) (f_o : Nat → Int64) (z_o : Nat) (cs : va_W) {vs : List Value} (hq0 : cs[0]? = some (q_x, .inr (9, vs))) {rmC : Room} {s0 : State} {F : Nat → va_W → Prop} (hM : CtR (lE s0) l (dC, dI) vwCl yCW_size wc_CW_size rmC (tyK K) [.ref q_x, .int (nI x0)] cs (fun rv ws => ∃ v, rv = some (.int (nI v)) ∧ F v ws)) : CtR (lE s0) l (dC, dI) vwCl yLW_size wc_LW_size (rmH rmC) (tyK K) [.ref q_x, .int (nI x0), .ref q_o] (wLArr K 1 q_o f_o z_o ++ cs) (fun rv ws => ∃ v w, rv = some (.int (nI 0)) ∧ F v w ∧ ws = wLArr K 1 q_o f_o (awL z_o 0 (jX v)) ++ w) := by
  intro sz
  refine Met.ofWh (cc := cLW_size) (maxL := 4) (ret := (some .int)) (hs := [(0, 9, 12, 13)]) (by decide) rfl ?_
  intro p e s m args below meth c s₁ B hml htb hv
  obtain ⟨rfl, hsz, hP, hK, hD0, hE⟩ := hv
  have hx := B.exec
  have hb := B.bytes
  have hr := B.returns
  have hts := atoms_spec (ws := wc_LW_size) B.pre
  have hws : ∀ w ∈ WS, w.before _ s = true := fun w h => hts w (List.mem_cons_of_mem _ h)
  have hown : s.vm.findClass RLW = some m.cls := findClass_of_methodNamed B.named
  have hlocks := B.notSynchronized
  subst hsz
  have hD := hD0.self (sz := s.heap.size)
  generalize hAe : va_A (wLArr K 1 q_o f_o z_o ++ cs) s.heap.size = A at hD ⊢
  have hA : ∀ q : Nat, s.heap.size ≤ q → A q := fun q h => by rw [← hAe]; exact Or.inr h
  have hS : va_S A s.heap s.heap [] := va_S.rf
  have hl := lv_entry ([.ref q_x, .int (nI x0), .ref q_o]) (n := 4) (Nat.le_of_ble_eq_true rfl)
  rw [lg_entry_eq]
  generalize (lg_sl ([.ref q_x, .int (nI x0), .ref q_o]) ++ List.replicate (4 - (lg_sl ([.ref q_x, .int (nI x0), .ref q_o])).length) Slot.unset).toArray = ls at hl ⊢
  have hl : lv_has ls 4 [(0, .ref q_x), (1, .int (nI x0)), (2, .ref q_o)] := hl
  generalize ([.ref q_x, .int (nI x0), .ref q_o] : List Value).toArray = args at hts hws ⊢
  generalize hQ : MQ below _ _ _ _ _ _ = Q
  refine lv_aload_n hx hb dLW_size_0 rfl (lv_at hl 2 rfl) ?_
  refine lv_iconst (v := nI 0) hx hb dLW_size_1 (by decide +kernel) ?_
  refine lv_aload_n hx hb dLW_size_2 rfl (lv_at hl 0 rfl) ?_
  refine lv_iload_n hx hb dLW_size_3 rfl (lv_at hl 1 rfl) ?_
  refine cr_call (w0 := wLArr K 1 q_o f_o z_o) (cs := cs) (va_runV (As := [.int (nI x0)]) (rest := [.int (nI 0), .ref q_o]) ⟨hx, hb, hml, hown, hws⟩ (hM _) ⟨cb_CW_size hws rmC (hws _ km_LW_7) ⟨Nat.le_refl _, by show 8 + (2 + 11) + rmC.locals ≤ 24 + rmC.locals; omega⟩, hws _ ki_CW_size, hws _ ke_CW_CW_size_CW_size⟩ ⟨le_blind _ _ _, va_recv (ci := 9) (q0 := 0) (q := (RCW, TCW, 9)) hK (app_P.mp hP).2 rfl hq0, le_pre hP hD hK hE hE.2.2.2 _⟩ rfl rfl hl.1 rfl (lv_room (Nat.le_of_ble_eq_true rfl)) dLW_size_4 ⟨Nat.le_refl _, Nat.le_refl _⟩) hP hD hS hA (fun rv ws H locs hF hP hD hS => ?_)
  obtain ⟨v, rfl, hF⟩ := hF
  refine lx_i2l hx hb dLW_size_7 ?_
  refine lx_last hx hb hK hP hD hS 0 2 rfl rfl (by decide) dLW_size_8 (X := some 0) (r := 0) rfl (fun _ H locs hP hD hS => ?_)
  have hP : va_P (dC, dI) vwCl (wLArr K 1 q_o f_o (awL z_o 0 (jX v)) ++ ws) H := hP
  have hD : va_D A (wLArr K 1 q_o f_o (awL z_o 0 (jX v)) ++ ws) := hD
  refine lv_goto (tgt := 15) hx hb dLW_size_9 (by decide) ?_
  refine lv_iconst (v := nI 0) hx hb dLW_size_15 (by decide +kernel) ?_
  rw [← hQ]
  exact W.iret (v := nI 0) hx hb hr (fun t ht hW => ⟨⟨_, _, rfl, ⟨v, ws, rfl, hF, rfl⟩, by rw [ht]; exact hP, hD⟩, hS.F ht⟩) hS.2.2 dLW_size_16
set_option maxHeartbeats 1000000 in
theorem hx_size (l : Launch) (dC : Nat → ClassId) (dI : Nat → Nat → Nat) (K : Nat → ClassId) (q_x q_o x0 : Nat) (f_o : Nat → Int64) (z_o : Nat) (cs : va_W) {vs : List Value} (hq0 : cs[0]? = some (q_x, .inr (9, vs))) {rmC : Room} {s0 : State} {cs' : va_W} (hM : CtX (lE s0) l (dC, dI) vwCl yCW_size wc_CW_size rmC (tyK K) [.ref q_x, .int (nI x0)] cs cs' "java/lang/IllegalArgumentException") (hm : cs'.map (·.1) = cs.map (·.1)) {A0 : Array Value} (h0 : ∀ w ∈ xs_own RCW 79 75 "java/lang/IllegalArgumentException", w.before A0 s0 = true) : CtR (lE s0) l (dC, dI) vwCl yLW_size wc_LW_size (rmH rmC) (tyK K) [.ref q_x, .int (nI x0), .ref q_o] (wLArr K 1 q_o f_o z_o ++ cs) (fun rv ws => rv = some (.int (nI 1)) ∧ ws = wLArr K 1 q_o f_o z_o ++ cs') := by
  intro sz
  refine Met.ofWh (cc := cLW_size) (maxL := 4) (ret := (some .int)) (hs := [(0, 9, 12, 13)]) (by decide) rfl ?_
  intro p e s m args below meth c s₁ B hml htb hv
  obtain ⟨rfl, hsz, hP, hK, hD0, hE⟩ := hv
  have hx := B.exec
  have hb := B.bytes
  have hr := B.returns
  have hts := atoms_spec (ws := wc_LW_size) B.pre
  have hws : ∀ w ∈ WS, w.before _ s = true := fun w h => hts w (List.mem_cons_of_mem _ h)
  have hown : s.vm.findClass RLW = some m.cls := findClass_of_methodNamed B.named
  have hlocks := B.notSynchronized
  subst hsz
  have hD := hD0.self (sz := s.heap.size)
  generalize hAe : va_A (wLArr K 1 q_o f_o z_o ++ cs) s.heap.size = A at hD ⊢
  have hA : ∀ q : Nat, s.heap.size ≤ q → A q := fun q h => by rw [← hAe]; exact Or.inr h
  have hS : va_S A s.heap s.heap [] := va_S.rf
  have hl := lv_entry ([.ref q_x, .int (nI x0), .ref q_o]) (n := 4) (Nat.le_of_ble_eq_true rfl)
  rw [lg_entry_eq]
  generalize (lg_sl ([.ref q_x, .int (nI x0), .ref q_o]) ++ List.replicate (4 - (lg_sl ([.ref q_x, .int (nI x0), .ref q_o])).length) Slot.unset).toArray = ls at hl ⊢
  have hl : lv_has ls 4 [(0, .ref q_x), (1, .int (nI x0)), (2, .ref q_o)] := hl
  generalize ([.ref q_x, .int (nI x0), .ref q_o] : List Value).toArray = args at hts hws ⊢
  generalize hQ : MQ below _ _ _ _ _ _ = Q
  refine lv_aload_n hx hb dLW_size_0 rfl (lv_at hl 2 rfl) ?_
  refine lv_iconst (v := nI 0) hx hb dLW_size_1 (by decide +kernel) ?_
  refine lv_aload_n hx hb dLW_size_2 rfl (lv_at hl 0 rfl) ?_
  refine lv_iload_n hx hb dLW_size_3 rfl (lv_at hl 1 rfl) ?_
  refine cx_call (w0 := wLArr K 1 q_o f_o z_o) (cs := cs) (cs' := cs') (va_runXV (As := [.int (nI x0)]) (rest := [.int (nI 0), .ref q_o]) ⟨hx, hb, hml, hown, hws⟩ (hM _) ⟨cb_CW_size hws rmC (hws _ km_LW_7) ⟨Nat.le_refl _, by show 8 + (2 + 11) + rmC.locals ≤ 24 + rmC.locals; omega⟩, hws _ ki_CW_size, hws _ ke_CW_CW_size_CW_size⟩ ⟨le_blind _ _ _, va_recv (ci := 9) (q0 := 0) (q := (RCW, TCW, 9)) hK (app_P.mp hP).2 rfl hq0, le_pre hP hD hK hE hE.2.2.2 _⟩ rfl rfl hl.1 rfl (lv_room (Nat.le_of_ble_eq_true rfl)) dLW_size_4 ⟨Nat.le_refl _, Nat.le_refl _⟩) (xs_c1 hown ⟨0, 9, 12, 13⟩ [] (by rw [htb]; rfl) (by decide) (by decide) (hws _ kl_LW_13) (xs_word hE.2.2 (by decide +kernel) (h0 (.castable "java/lang/IllegalArgumentException" "java/lang/IllegalArgumentException") (by simp [xs_own, Bundle.ownAtoms])))) hP hD hS hA hm (fun x H locs hP hD hS => ?_)
  refine lv_astore_n hx hb dLW_size_12 rfl hl (by decide) rfl (fun ls hl => ?_)
  refine lv_iconst (v := nI 1) hx hb dLW_size_13 (by decide +kernel) ?_
  rw [← hQ]
  exact W.iret (v := nI 1) hx hb hr (fun t ht hW => ⟨⟨_, _, rfl, ⟨rfl, rfl⟩, by rw [ht]; exact hP, hD⟩, hS.F ht⟩) hS.2.2 dLW_size_14
abbrev wc_LW_unrank : List Cond := Cond.codeWith yLW_unrank cLW_unrank 3 (some .int) [(0, 5, 8, 13)] :: WS
set_option maxHeartbeats 1000000 in
theorem hr_unrank (l : Launch) (dC : Nat → ClassId) (dI : Nat → Nat → Nat) (K : Nat → ClassId) (q_x q_o x0 : Nat) (f_o : Nat → Int64) (z_o : Nat) (cs : va_W) {vs : List Value} (hq0 : cs[0]? = some (q_x, .inr (9, vs))) {rmC : Room} {s0 : State} {F : va_W → Prop} (hM : CtR (lE s0) l (dC, dI) vwCl yCW_unrank wc_CW_unrank rmC (tyK K) [.ref q_x, .int (nI x0)] cs (fun rv ws => rv = none ∧ F ws)) : CtR (lE s0) l (dC, dI) vwCl yLW_unrank wc_LW_unrank (rmH rmC) (tyK K) [.ref q_x, .int (nI x0)] (([] : va_W) ++ cs) (fun rv ws => ∃ w, rv = some (.int (nI 0)) ∧ F w ∧ ws = ([] : va_W) ++ w) := by
  intro sz
  refine Met.ofWh (cc := cLW_unrank) (maxL := 3) (ret := (some .int)) (hs := [(0, 5, 8, 13)]) (by decide) rfl ?_
  intro p e s m args below meth c s₁ B hml htb hv
  obtain ⟨rfl, hsz, hP, hK, hD0, hE⟩ := hv
  have hx := B.exec
  have hb := B.bytes
  have hr := B.returns
  have hts := atoms_spec (ws := wc_LW_unrank) B.pre
  have hws : ∀ w ∈ WS, w.before _ s = true := fun w h => hts w (List.mem_cons_of_mem _ h)
  have hown : s.vm.findClass RLW = some m.cls := findClass_of_methodNamed B.named
  have hlocks := B.notSynchronized
  subst hsz
  have hD := hD0.self (sz := s.heap.size)
  generalize hAe : va_A (([] : va_W) ++ cs) s.heap.size = A at hD ⊢
  have hA : ∀ q : Nat, s.heap.size ≤ q → A q := fun q h => by rw [← hAe]; exact Or.inr h
  have hS : va_S A s.heap s.heap [] := va_S.rf
  have hl := lv_entry ([.ref q_x, .int (nI x0)]) (n := 3) (Nat.le_of_ble_eq_true rfl)
  rw [lg_entry_eq]
  generalize (lg_sl ([.ref q_x, .int (nI x0)]) ++ List.replicate (3 - (lg_sl ([.ref q_x, .int (nI x0)])).length) Slot.unset).toArray = ls at hl ⊢
  have hl : lv_has ls 3 [(0, .ref q_x), (1, .int (nI x0))] := hl
  generalize ([.ref q_x, .int (nI x0)] : List Value).toArray = args at hts hws ⊢
  generalize hQ : MQ below _ _ _ _ _ _ = Q
  refine lv_aload_n hx hb dLW_unrank_0 rfl (lv_at hl 0 rfl) ?_
  refine lv_iload_n hx hb dLW_unrank_1 rfl (lv_at hl 1 rfl) ?_
  refine cr_call (w0 := ([] : va_W)) (cs := cs) (va_runV (As := [.int (nI x0)]) (rest := []) ⟨hx, hb, hml, hown, hws⟩ (hM _) ⟨cb_CW_unrank hws rmC (hws _ km_LW_15) ⟨Nat.le_refl _, by show 8 + (2 + 11) + rmC.locals ≤ 24 + rmC.locals; omega⟩, hws _ ki_CW_unrank, hws _ ke_CW_CW_unrank_CW_unrank⟩ ⟨le_blind _ _ _, va_recv (ci := 9) (q0 := 0) (q := (RCW, TCW, 9)) hK (app_P.mp hP).2 rfl hq0, le_pre hP hD hK hE hE.2.2.2 _⟩ rfl rfl hl.1 rfl (lv_room (Nat.le_of_ble_eq_true rfl)) dLW_unrank_2 ⟨Nat.le_refl _, Nat.le_refl _⟩) hP hD hS hA (fun rv ws H locs hF hP hD hS => ?_)
  obtain ⟨rfl, hF⟩ := hF
  refine lv_goto (tgt := 11) hx hb dLW_unrank_5 (by decide) ?_
  refine lv_iconst (v := nI 0) hx hb dLW_unrank_11 (by decide +kernel) ?_
  rw [← hQ]
  exact W.iret (v := nI 0) hx hb hr (fun t ht hW => ⟨⟨_, _, rfl, ⟨ws, rfl, hF, rfl⟩, by rw [ht]; exact hP, hD⟩, hS.F ht⟩) hS.2.2 dLW_unrank_12
set_option maxHeartbeats 1000000 in
theorem hx_unrank (l : Launch) (dC : Nat → ClassId) (dI : Nat → Nat → Nat) (K : Nat → ClassId) (q_x q_o x0 : Nat) (f_o : Nat → Int64) (z_o : Nat) (cs : va_W) {vs : List Value} (hq0 : cs[0]? = some (q_x, .inr (9, vs))) {rmC : Room} {s0 : State} {cs' : va_W} (hM : CtX (lE s0) l (dC, dI) vwCl yCW_unrank wc_CW_unrank rmC (tyK K) [.ref q_x, .int (nI x0)] cs cs' "java/lang/IllegalArgumentException") (hm : cs'.map (·.1) = cs.map (·.1)) {A0 : Array Value} (h0 : ∀ w ∈ xs_own RCW 79 75 "java/lang/IllegalArgumentException", w.before A0 s0 = true) : CtR (lE s0) l (dC, dI) vwCl yLW_unrank wc_LW_unrank (rmH rmC) (tyK K) [.ref q_x, .int (nI x0)] (([] : va_W) ++ cs) (fun rv ws => rv = some (.int (nI 1)) ∧ ws = ([] : va_W) ++ cs') := by
  intro sz
  refine Met.ofWh (cc := cLW_unrank) (maxL := 3) (ret := (some .int)) (hs := [(0, 5, 8, 13)]) (by decide) rfl ?_
  intro p e s m args below meth c s₁ B hml htb hv
  obtain ⟨rfl, hsz, hP, hK, hD0, hE⟩ := hv
  have hx := B.exec
  have hb := B.bytes
  have hr := B.returns
  have hts := atoms_spec (ws := wc_LW_unrank) B.pre
  have hws : ∀ w ∈ WS, w.before _ s = true := fun w h => hts w (List.mem_cons_of_mem _ h)
  have hown : s.vm.findClass RLW = some m.cls := findClass_of_methodNamed B.named
  have hlocks := B.notSynchronized
  subst hsz
  have hD := hD0.self (sz := s.heap.size)
  generalize hAe : va_A (([] : va_W) ++ cs) s.heap.size = A at hD ⊢
  have hA : ∀ q : Nat, s.heap.size ≤ q → A q := fun q h => by rw [← hAe]; exact Or.inr h
  have hS : va_S A s.heap s.heap [] := va_S.rf
  have hl := lv_entry ([.ref q_x, .int (nI x0)]) (n := 3) (Nat.le_of_ble_eq_true rfl)
  rw [lg_entry_eq]
  generalize (lg_sl ([.ref q_x, .int (nI x0)]) ++ List.replicate (3 - (lg_sl ([.ref q_x, .int (nI x0)])).length) Slot.unset).toArray = ls at hl ⊢
  have hl : lv_has ls 3 [(0, .ref q_x), (1, .int (nI x0))] := hl
  generalize ([.ref q_x, .int (nI x0)] : List Value).toArray = args at hts hws ⊢
  generalize hQ : MQ below _ _ _ _ _ _ = Q
  refine lv_aload_n hx hb dLW_unrank_0 rfl (lv_at hl 0 rfl) ?_
  refine lv_iload_n hx hb dLW_unrank_1 rfl (lv_at hl 1 rfl) ?_
  refine cx_call (w0 := ([] : va_W)) (cs := cs) (cs' := cs') (va_runXV (As := [.int (nI x0)]) (rest := []) ⟨hx, hb, hml, hown, hws⟩ (hM _) ⟨cb_CW_unrank hws rmC (hws _ km_LW_15) ⟨Nat.le_refl _, by show 8 + (2 + 11) + rmC.locals ≤ 24 + rmC.locals; omega⟩, hws _ ki_CW_unrank, hws _ ke_CW_CW_unrank_CW_unrank⟩ ⟨le_blind _ _ _, va_recv (ci := 9) (q0 := 0) (q := (RCW, TCW, 9)) hK (app_P.mp hP).2 rfl hq0, le_pre hP hD hK hE hE.2.2.2 _⟩ rfl rfl hl.1 rfl (lv_room (Nat.le_of_ble_eq_true rfl)) dLW_unrank_2 ⟨Nat.le_refl _, Nat.le_refl _⟩) (xs_c1 hown ⟨0, 5, 8, 13⟩ [] (by rw [htb]; rfl) (by decide) (by decide) (hws _ kl_LW_13) (xs_word hE.2.2 (by decide +kernel) (h0 (.castable "java/lang/IllegalArgumentException" "java/lang/IllegalArgumentException") (by simp [xs_own, Bundle.ownAtoms])))) hP hD hS hA hm (fun x H locs hP hD hS => ?_)
  refine lv_astore_n hx hb dLW_unrank_8 rfl hl (by decide) rfl (fun ls hl => ?_)
  refine lv_iconst (v := nI 1) hx hb dLW_unrank_9 (by decide +kernel) ?_
  rw [← hQ]
  exact W.iret (v := nI 1) hx hb hr (fun t ht hW => ⟨⟨_, _, rfl, ⟨rfl, rfl⟩, by rw [ht]; exact hP, hD⟩, hS.F ht⟩) hS.2.2 dLW_unrank_10
abbrev wc_LW_rows : List Cond := Cond.codeWith yLW_rows cLW_rows 5 (some .int) [(0, 10, 13, 13)] :: WS
set_option maxHeartbeats 1000000 in
theorem hr_rows (l : Launch) (dC : Nat → ClassId) (dI : Nat → Nat → Nat) (K : Nat → ClassId) (q_x q_o x0 x1 : Nat) (f_o : Nat → Int64) (z_o : Nat) (cs : va_W) {vs : List Value} (hq0 : cs[0]? = some (q_x, .inr (9, vs))) {rmC : Room} {s0 : State} {F : Nat → va_W → Prop} (hM : CtR (lE s0) l (dC, dI) vwCl yCW_rows wc_CW_rows rmC (tyK K) [.ref q_x, .int (nI x0), .int (nI x1)] cs (fun rv ws => ∃ v, rv = some (.int (nI v)) ∧ F v ws)) : CtR (lE s0) l (dC, dI) vwCl yLW_rows wc_LW_rows (rmH rmC) (tyK K) [.ref q_x, .int (nI x0), .int (nI x1), .ref q_o] (wLArr K 1 q_o f_o z_o ++ cs) (fun rv ws => ∃ v w, rv = some (.int (nI 0)) ∧ F v w ∧ ws = wLArr K 1 q_o f_o (awL z_o 0 (jX v)) ++ w) := by
  intro sz
  refine Met.ofWh (cc := cLW_rows) (maxL := 5) (ret := (some .int)) (hs := [(0, 10, 13, 13)]) (by decide) rfl ?_
  intro p e s m args below meth c s₁ B hml htb hv
  obtain ⟨rfl, hsz, hP, hK, hD0, hE⟩ := hv
  have hx := B.exec
  have hb := B.bytes
  have hr := B.returns
  have hts := atoms_spec (ws := wc_LW_rows) B.pre
  have hws : ∀ w ∈ WS, w.before _ s = true := fun w h => hts w (List.mem_cons_of_mem _ h)
  have hown : s.vm.findClass RLW = some m.cls := findClass_of_methodNamed B.named
  have hlocks := B.notSynchronized
  subst hsz
  have hD := hD0.self (sz := s.heap.size)
  generalize hAe : va_A (wLArr K 1 q_o f_o z_o ++ cs) s.heap.size = A at hD ⊢
  have hA : ∀ q : Nat, s.heap.size ≤ q → A q := fun q h => by rw [← hAe]; exact Or.inr h
  have hS : va_S A s.heap s.heap [] := va_S.rf
  have hl := lv_entry ([.ref q_x, .int (nI x0), .int (nI x1), .ref q_o]) (n := 5) (Nat.le_of_ble_eq_true rfl)
  rw [lg_entry_eq]
  generalize (lg_sl ([.ref q_x, .int (nI x0), .int (nI x1), .ref q_o]) ++ List.replicate (5 - (lg_sl ([.ref q_x, .int (nI x0), .int (nI x1), .ref q_o])).length) Slot.unset).toArray = ls at hl ⊢
  have hl : lv_has ls 5 [(0, .ref q_x), (1, .int (nI x0)), (2, .int (nI x1)), (3, .ref q_o)] := hl
  generalize ([.ref q_x, .int (nI x0), .int (nI x1), .ref q_o] : List Value).toArray = args at hts hws ⊢
  generalize hQ : MQ below _ _ _ _ _ _ = Q
  refine lv_aload_n hx hb dLW_rows_0 rfl (lv_at hl 3 rfl) ?_
  refine lv_iconst (v := nI 0) hx hb dLW_rows_1 (by decide +kernel) ?_
  refine lv_aload_n hx hb dLW_rows_2 rfl (lv_at hl 0 rfl) ?_
  refine lv_iload_n hx hb dLW_rows_3 rfl (lv_at hl 1 rfl) ?_
  refine lv_iload_n hx hb dLW_rows_4 rfl (lv_at hl 2 rfl) ?_
  refine cr_call (w0 := wLArr K 1 q_o f_o z_o) (cs := cs) (va_runV (As := [.int (nI x0), .int (nI x1)]) (rest := [.int (nI 0), .ref q_o]) ⟨hx, hb, hml, hown, hws⟩ (hM _) ⟨cb_CW_rows hws rmC (hws _ km_LW_19) ⟨Nat.le_refl _, by show 8 + (3 + 11) + rmC.locals ≤ 24 + rmC.locals; omega⟩, hws _ ki_CW_rows, hws _ ke_CW_CW_rows_CW_rows⟩ ⟨le_blind _ _ _, va_recv (ci := 9) (q0 := 0) (q := (RCW, TCW, 9)) hK (app_P.mp hP).2 rfl hq0, le_pre hP hD hK hE hE.2.2.2 _⟩ rfl rfl hl.1 rfl (lv_room (Nat.le_of_ble_eq_true rfl)) dLW_rows_5 ⟨Nat.le_refl _, Nat.le_refl _⟩) hP hD hS hA (fun rv ws H locs hF hP hD hS => ?_)
  obtain ⟨v, rfl, hF⟩ := hF
  refine lx_i2l hx hb dLW_rows_8 ?_
  refine lx_last hx hb hK hP hD hS 0 2 rfl rfl (by decide) dLW_rows_9 (X := some 0) (r := 0) rfl (fun _ H locs hP hD hS => ?_)
  have hP : va_P (dC, dI) vwCl (wLArr K 1 q_o f_o (awL z_o 0 (jX v)) ++ ws) H := hP
  have hD : va_D A (wLArr K 1 q_o f_o (awL z_o 0 (jX v)) ++ ws) := hD
  refine lv_goto (tgt := 17) hx hb dLW_rows_10 (by decide) ?_
  refine lv_iconst (v := nI 0) hx hb dLW_rows_17 (by decide +kernel) ?_
  rw [← hQ]
  exact W.iret (v := nI 0) hx hb hr (fun t ht hW => ⟨⟨_, _, rfl, ⟨v, ws, rfl, hF, rfl⟩, by rw [ht]; exact hP, hD⟩, hS.F ht⟩) hS.2.2 dLW_rows_18
set_option maxHeartbeats 1000000 in
theorem hx_rows (l : Launch) (dC : Nat → ClassId) (dI : Nat → Nat → Nat) (K : Nat → ClassId) (q_x q_o x0 x1 : Nat) (f_o : Nat → Int64) (z_o : Nat) (cs : va_W) {vs : List Value} (hq0 : cs[0]? = some (q_x, .inr (9, vs))) {rmC : Room} {s0 : State} {cs' : va_W} (hM : CtX (lE s0) l (dC, dI) vwCl yCW_rows wc_CW_rows rmC (tyK K) [.ref q_x, .int (nI x0), .int (nI x1)] cs cs' "java/lang/IllegalArgumentException") (hm : cs'.map (·.1) = cs.map (·.1)) {A0 : Array Value} (h0 : ∀ w ∈ xs_own RCW 79 75 "java/lang/IllegalArgumentException", w.before A0 s0 = true) : CtR (lE s0) l (dC, dI) vwCl yLW_rows wc_LW_rows (rmH rmC) (tyK K) [.ref q_x, .int (nI x0), .int (nI x1), .ref q_o] (wLArr K 1 q_o f_o z_o ++ cs) (fun rv ws => rv = some (.int (nI 1)) ∧ ws = wLArr K 1 q_o f_o z_o ++ cs') := by
  intro sz
  refine Met.ofWh (cc := cLW_rows) (maxL := 5) (ret := (some .int)) (hs := [(0, 10, 13, 13)]) (by decide) rfl ?_
  intro p e s m args below meth c s₁ B hml htb hv
  obtain ⟨rfl, hsz, hP, hK, hD0, hE⟩ := hv
  have hx := B.exec
  have hb := B.bytes
  have hr := B.returns
  have hts := atoms_spec (ws := wc_LW_rows) B.pre
  have hws : ∀ w ∈ WS, w.before _ s = true := fun w h => hts w (List.mem_cons_of_mem _ h)
  have hown : s.vm.findClass RLW = some m.cls := findClass_of_methodNamed B.named
  have hlocks := B.notSynchronized
  subst hsz
  have hD := hD0.self (sz := s.heap.size)
  generalize hAe : va_A (wLArr K 1 q_o f_o z_o ++ cs) s.heap.size = A at hD ⊢
  have hA : ∀ q : Nat, s.heap.size ≤ q → A q := fun q h => by rw [← hAe]; exact Or.inr h
  have hS : va_S A s.heap s.heap [] := va_S.rf
  have hl := lv_entry ([.ref q_x, .int (nI x0), .int (nI x1), .ref q_o]) (n := 5) (Nat.le_of_ble_eq_true rfl)
  rw [lg_entry_eq]
  generalize (lg_sl ([.ref q_x, .int (nI x0), .int (nI x1), .ref q_o]) ++ List.replicate (5 - (lg_sl ([.ref q_x, .int (nI x0), .int (nI x1), .ref q_o])).length) Slot.unset).toArray = ls at hl ⊢
  have hl : lv_has ls 5 [(0, .ref q_x), (1, .int (nI x0)), (2, .int (nI x1)), (3, .ref q_o)] := hl
  generalize ([.ref q_x, .int (nI x0), .int (nI x1), .ref q_o] : List Value).toArray = args at hts hws ⊢
  generalize hQ : MQ below _ _ _ _ _ _ = Q
  refine lv_aload_n hx hb dLW_rows_0 rfl (lv_at hl 3 rfl) ?_
  refine lv_iconst (v := nI 0) hx hb dLW_rows_1 (by decide +kernel) ?_
  refine lv_aload_n hx hb dLW_rows_2 rfl (lv_at hl 0 rfl) ?_
  refine lv_iload_n hx hb dLW_rows_3 rfl (lv_at hl 1 rfl) ?_
  refine lv_iload_n hx hb dLW_rows_4 rfl (lv_at hl 2 rfl) ?_
  refine cx_call (w0 := wLArr K 1 q_o f_o z_o) (cs := cs) (cs' := cs') (va_runXV (As := [.int (nI x0), .int (nI x1)]) (rest := [.int (nI 0), .ref q_o]) ⟨hx, hb, hml, hown, hws⟩ (hM _) ⟨cb_CW_rows hws rmC (hws _ km_LW_19) ⟨Nat.le_refl _, by show 8 + (3 + 11) + rmC.locals ≤ 24 + rmC.locals; omega⟩, hws _ ki_CW_rows, hws _ ke_CW_CW_rows_CW_rows⟩ ⟨le_blind _ _ _, va_recv (ci := 9) (q0 := 0) (q := (RCW, TCW, 9)) hK (app_P.mp hP).2 rfl hq0, le_pre hP hD hK hE hE.2.2.2 _⟩ rfl rfl hl.1 rfl (lv_room (Nat.le_of_ble_eq_true rfl)) dLW_rows_5 ⟨Nat.le_refl _, Nat.le_refl _⟩) (xs_c1 hown ⟨0, 10, 13, 13⟩ [] (by rw [htb]; rfl) (by decide) (by decide) (hws _ kl_LW_13) (xs_word hE.2.2 (by decide +kernel) (h0 (.castable "java/lang/IllegalArgumentException" "java/lang/IllegalArgumentException") (by simp [xs_own, Bundle.ownAtoms])))) hP hD hS hA hm (fun x H locs hP hD hS => ?_)
  refine lv_astore hx hb dLW_rows_13 hl (by decide) rfl (fun ls hl => ?_)
  refine lv_iconst (v := nI 1) hx hb dLW_rows_15 (by decide +kernel) ?_
  rw [← hQ]
  exact W.iret (v := nI 1) hx hb hr (fun t ht hW => ⟨⟨_, _, rfl, ⟨rfl, rfl⟩, by rw [ht]; exact hP, hD⟩, hS.F ht⟩) hS.2.2 dLW_rows_16
abbrev wc_LW_put : List Cond := Cond.codeWith yLW_put cLW_put 4 (some .int) [(0, 6, 9, 27)] :: WS
set_option maxHeartbeats 1000000 in
theorem hr_put (l : Launch) (dC : Nat → ClassId) (dI : Nat → Nat → Nat) (K : Nat → ClassId) (q_x q_o x0 x1 : Nat) (f_o : Nat → Int64) (z_o : Nat) (cs : va_W) {vs : List Value} (hq0 : cs[0]? = some (q_x, .inr (9, vs))) {rmC : Room} {s0 : State} {F : va_W → Prop} (hM : CtR (lE s0) l (dC, dI) vwCl yCW_put wc_CW_put rmC (tyK K) [.ref q_x, .int (nI x0), .int (nI x1)] cs (fun rv ws => rv = none ∧ F ws)) : CtR (lE s0) l (dC, dI) vwCl yLW_put wc_LW_put (rmH rmC) (tyK K) [.ref q_x, .int (nI x0), .int (nI x1)] (([] : va_W) ++ cs) (fun rv ws => ∃ w, rv = some (.int (nI 0)) ∧ F w ∧ ws = ([] : va_W) ++ w) := by
  intro sz
  refine Met.ofWh (cc := cLW_put) (maxL := 4) (ret := (some .int)) (hs := [(0, 6, 9, 27)]) (by decide) rfl ?_
  intro p e s m args below meth c s₁ B hml htb hv
  obtain ⟨rfl, hsz, hP, hK, hD0, hE⟩ := hv
  have hx := B.exec
  have hb := B.bytes
  have hr := B.returns
  have hts := atoms_spec (ws := wc_LW_put) B.pre
  have hws : ∀ w ∈ WS, w.before _ s = true := fun w h => hts w (List.mem_cons_of_mem _ h)
  have hown : s.vm.findClass RLW = some m.cls := findClass_of_methodNamed B.named
  have hlocks := B.notSynchronized
  subst hsz
  have hD := hD0.self (sz := s.heap.size)
  generalize hAe : va_A (([] : va_W) ++ cs) s.heap.size = A at hD ⊢
  have hA : ∀ q : Nat, s.heap.size ≤ q → A q := fun q h => by rw [← hAe]; exact Or.inr h
  have hS : va_S A s.heap s.heap [] := va_S.rf
  have hl := lv_entry ([.ref q_x, .int (nI x0), .int (nI x1)]) (n := 4) (Nat.le_of_ble_eq_true rfl)
  rw [lg_entry_eq]
  generalize (lg_sl ([.ref q_x, .int (nI x0), .int (nI x1)]) ++ List.replicate (4 - (lg_sl ([.ref q_x, .int (nI x0), .int (nI x1)])).length) Slot.unset).toArray = ls at hl ⊢
  have hl : lv_has ls 4 [(0, .ref q_x), (1, .int (nI x0)), (2, .int (nI x1))] := hl
  generalize ([.ref q_x, .int (nI x0), .int (nI x1)] : List Value).toArray = args at hts hws ⊢
  generalize hQ : MQ below _ _ _ _ _ _ = Q
  refine lv_aload_n hx hb dLW_put_0 rfl (lv_at hl 0 rfl) ?_
  refine lv_iload_n hx hb dLW_put_1 rfl (lv_at hl 1 rfl) ?_
  refine lv_iload_n hx hb dLW_put_2 rfl (lv_at hl 2 rfl) ?_
  refine cr_call (w0 := ([] : va_W)) (cs := cs) (va_runV (As := [.int (nI x0), .int (nI x1)]) (rest := []) ⟨hx, hb, hml, hown, hws⟩ (hM _) ⟨cb_CW_put hws rmC (hws _ km_LW_23) ⟨Nat.le_refl _, by show 8 + (3 + 11) + rmC.locals ≤ 24 + rmC.locals; omega⟩, hws _ ki_CW_put, hws _ ke_CW_CW_put_CW_put⟩ ⟨le_blind _ _ _, va_recv (ci := 9) (q0 := 0) (q := (RCW, TCW, 9)) hK (app_P.mp hP).2 rfl hq0, le_pre hP hD hK hE hE.2.2.2 _⟩ rfl rfl hl.1 rfl (lv_room (Nat.le_of_ble_eq_true rfl)) dLW_put_3 ⟨Nat.le_refl _, Nat.le_refl _⟩) hP hD hS hA (fun rv ws H locs hF hP hD hS => ?_)
  obtain ⟨rfl, hF⟩ := hF
  refine lv_goto (tgt := 12) hx hb dLW_put_6 (by decide) ?_
  refine lv_iconst (v := nI 0) hx hb dLW_put_12 (by decide +kernel) ?_
  rw [← hQ]
  exact W.iret (v := nI 0) hx hb hr (fun t ht hW => ⟨⟨_, _, rfl, ⟨ws, rfl, hF, rfl⟩, by rw [ht]; exact hP, hD⟩, hS.F ht⟩) hS.2.2 dLW_put_13
set_option maxHeartbeats 1000000 in
theorem hx_put (l : Launch) (dC : Nat → ClassId) (dI : Nat → Nat → Nat) (K : Nat → ClassId) (q_x q_o x0 x1 : Nat) (f_o : Nat → Int64) (z_o : Nat) (cs : va_W) {vs : List Value} (hq0 : cs[0]? = some (q_x, .inr (9, vs))) {rmC : Room} {s0 : State} {cs' : va_W} (hM : CtX (lE s0) l (dC, dI) vwCl yCW_put wc_CW_put rmC (tyK K) [.ref q_x, .int (nI x0), .int (nI x1)] cs cs' "java/lang/IndexOutOfBoundsException") (hm : cs'.map (·.1) = cs.map (·.1)) {A0 : Array Value} (h0 : ∀ w ∈ xs_own RCW 110 106 "java/lang/IndexOutOfBoundsException", w.before A0 s0 = true) : CtR (lE s0) l (dC, dI) vwCl yLW_put wc_LW_put (rmH rmC) (tyK K) [.ref q_x, .int (nI x0), .int (nI x1)] (([] : va_W) ++ cs) (fun rv ws => rv = some (.int (nI 1)) ∧ ws = ([] : va_W) ++ cs') := by
  intro sz
  refine Met.ofWh (cc := cLW_put) (maxL := 4) (ret := (some .int)) (hs := [(0, 6, 9, 27)]) (by decide) rfl ?_
  intro p e s m args below meth c s₁ B hml htb hv
  obtain ⟨rfl, hsz, hP, hK, hD0, hE⟩ := hv
  have hx := B.exec
  have hb := B.bytes
  have hr := B.returns
  have hts := atoms_spec (ws := wc_LW_put) B.pre
  have hws : ∀ w ∈ WS, w.before _ s = true := fun w h => hts w (List.mem_cons_of_mem _ h)
  have hown : s.vm.findClass RLW = some m.cls := findClass_of_methodNamed B.named
  have hlocks := B.notSynchronized
  subst hsz
  have hD := hD0.self (sz := s.heap.size)
  generalize hAe : va_A (([] : va_W) ++ cs) s.heap.size = A at hD ⊢
  have hA : ∀ q : Nat, s.heap.size ≤ q → A q := fun q h => by rw [← hAe]; exact Or.inr h
  have hS : va_S A s.heap s.heap [] := va_S.rf
  have hl := lv_entry ([.ref q_x, .int (nI x0), .int (nI x1)]) (n := 4) (Nat.le_of_ble_eq_true rfl)
  rw [lg_entry_eq]
  generalize (lg_sl ([.ref q_x, .int (nI x0), .int (nI x1)]) ++ List.replicate (4 - (lg_sl ([.ref q_x, .int (nI x0), .int (nI x1)])).length) Slot.unset).toArray = ls at hl ⊢
  have hl : lv_has ls 4 [(0, .ref q_x), (1, .int (nI x0)), (2, .int (nI x1))] := hl
  generalize ([.ref q_x, .int (nI x0), .int (nI x1)] : List Value).toArray = args at hts hws ⊢
  generalize hQ : MQ below _ _ _ _ _ _ = Q
  refine lv_aload_n hx hb dLW_put_0 rfl (lv_at hl 0 rfl) ?_
  refine lv_iload_n hx hb dLW_put_1 rfl (lv_at hl 1 rfl) ?_
  refine lv_iload_n hx hb dLW_put_2 rfl (lv_at hl 2 rfl) ?_
  refine cx_call (w0 := ([] : va_W)) (cs := cs) (cs' := cs') (va_runXV (As := [.int (nI x0), .int (nI x1)]) (rest := []) ⟨hx, hb, hml, hown, hws⟩ (hM _) ⟨cb_CW_put hws rmC (hws _ km_LW_23) ⟨Nat.le_refl _, by show 8 + (3 + 11) + rmC.locals ≤ 24 + rmC.locals; omega⟩, hws _ ki_CW_put, hws _ ke_CW_CW_put_CW_put⟩ ⟨le_blind _ _ _, va_recv (ci := 9) (q0 := 0) (q := (RCW, TCW, 9)) hK (app_P.mp hP).2 rfl hq0, le_pre hP hD hK hE hE.2.2.2 _⟩ rfl rfl hl.1 rfl (lv_room (Nat.le_of_ble_eq_true rfl)) dLW_put_3 ⟨Nat.le_refl _, Nat.le_refl _⟩) (xs_c1 hown ⟨0, 6, 9, 27⟩ [] (by rw [htb]; rfl) (by decide) (by decide) (hws _ kl_LW_27) (xs_word hE.2.2 (by decide +kernel) (h0 (.castable "java/lang/IndexOutOfBoundsException" "java/lang/IndexOutOfBoundsException") (by simp [xs_own, Bundle.ownAtoms])))) hP hD hS hA hm (fun x H locs hP hD hS => ?_)
  refine lv_astore_n hx hb dLW_put_9 rfl hl (by decide) rfl (fun ls hl => ?_)
  refine lv_iconst (v := nI 1) hx hb dLW_put_10 (by decide +kernel) ?_
  rw [← hQ]
  exact W.iret (v := nI 1) hx hb hr (fun t ht hW => ⟨⟨_, _, rfl, ⟨rfl, rfl⟩, by rw [ht]; exact hP, hD⟩, hS.F ht⟩) hS.2.2 dLW_put_11
abbrev wc_LW_note : List Cond := Cond.codeWith yLW_note cLW_note 4 (some .int) [(0, 9, 12, 27)] :: WS
set_option maxHeartbeats 1000000 in
theorem hr_note (l : Launch) (dC : Nat → ClassId) (dI : Nat → Nat → Nat) (K : Nat → ClassId) (q_x q_o x0 : Nat) (f_o : Nat → Int64) (z_o : Nat) (cs : va_W) {vs : List Value} (hq0 : cs[0]? = some (q_x, .inr (9, vs))) {rmC : Room} {s0 : State} {F : Nat → va_W → Prop} (hM : CtR (lE s0) l (dC, dI) vwCl yCW_note wc_CW_note rmC (tyK K) [.ref q_x, .int (nI x0)] cs (fun rv ws => ∃ v, rv = some (.int (nI v)) ∧ F v ws)) : CtR (lE s0) l (dC, dI) vwCl yLW_note wc_LW_note (rmH rmC) (tyK K) [.ref q_x, .int (nI x0), .ref q_o] (wLArr K 1 q_o f_o z_o ++ cs) (fun rv ws => ∃ v w, rv = some (.int (nI 0)) ∧ F v w ∧ ws = wLArr K 1 q_o f_o (awL z_o 0 (jX v)) ++ w) := by
  intro sz
  refine Met.ofWh (cc := cLW_note) (maxL := 4) (ret := (some .int)) (hs := [(0, 9, 12, 27)]) (by decide) rfl ?_
  intro p e s m args below meth c s₁ B hml htb hv
  obtain ⟨rfl, hsz, hP, hK, hD0, hE⟩ := hv
  have hx := B.exec
  have hb := B.bytes
  have hr := B.returns
  have hts := atoms_spec (ws := wc_LW_note) B.pre
  have hws : ∀ w ∈ WS, w.before _ s = true := fun w h => hts w (List.mem_cons_of_mem _ h)
  have hown : s.vm.findClass RLW = some m.cls := findClass_of_methodNamed B.named
  have hlocks := B.notSynchronized
  subst hsz
  have hD := hD0.self (sz := s.heap.size)
  generalize hAe : va_A (wLArr K 1 q_o f_o z_o ++ cs) s.heap.size = A at hD ⊢
  have hA : ∀ q : Nat, s.heap.size ≤ q → A q := fun q h => by rw [← hAe]; exact Or.inr h
  have hS : va_S A s.heap s.heap [] := va_S.rf
  have hl := lv_entry ([.ref q_x, .int (nI x0), .ref q_o]) (n := 4) (Nat.le_of_ble_eq_true rfl)
  rw [lg_entry_eq]
  generalize (lg_sl ([.ref q_x, .int (nI x0), .ref q_o]) ++ List.replicate (4 - (lg_sl ([.ref q_x, .int (nI x0), .ref q_o])).length) Slot.unset).toArray = ls at hl ⊢
  have hl : lv_has ls 4 [(0, .ref q_x), (1, .int (nI x0)), (2, .ref q_o)] := hl
  generalize ([.ref q_x, .int (nI x0), .ref q_o] : List Value).toArray = args at hts hws ⊢
  generalize hQ : MQ below _ _ _ _ _ _ = Q
  refine lv_aload_n hx hb dLW_note_0 rfl (lv_at hl 2 rfl) ?_
  refine lv_iconst (v := nI 0) hx hb dLW_note_1 (by decide +kernel) ?_
  refine lv_aload_n hx hb dLW_note_2 rfl (lv_at hl 0 rfl) ?_
  refine lv_iload_n hx hb dLW_note_3 rfl (lv_at hl 1 rfl) ?_
  refine cr_call (w0 := wLArr K 1 q_o f_o z_o) (cs := cs) (va_runV (As := [.int (nI x0)]) (rest := [.int (nI 0), .ref q_o]) ⟨hx, hb, hml, hown, hws⟩ (hM _) ⟨cb_CW_note hws rmC (hws _ km_LW_29) ⟨Nat.le_refl _, by show 8 + (2 + 11) + rmC.locals ≤ 24 + rmC.locals; omega⟩, hws _ ki_CW_note, hws _ ke_CW_CW_note_CW_note⟩ ⟨le_blind _ _ _, va_recv (ci := 9) (q0 := 0) (q := (RCW, TCW, 9)) hK (app_P.mp hP).2 rfl hq0, le_pre hP hD hK hE hE.2.2.2 _⟩ rfl rfl hl.1 rfl (lv_room (Nat.le_of_ble_eq_true rfl)) dLW_note_4 ⟨Nat.le_refl _, Nat.le_refl _⟩) hP hD hS hA (fun rv ws H locs hF hP hD hS => ?_)
  obtain ⟨v, rfl, hF⟩ := hF
  refine lx_i2l hx hb dLW_note_7 ?_
  refine lx_last hx hb hK hP hD hS 0 2 rfl rfl (by decide) dLW_note_8 (X := some 0) (r := 0) rfl (fun _ H locs hP hD hS => ?_)
  have hP : va_P (dC, dI) vwCl (wLArr K 1 q_o f_o (awL z_o 0 (jX v)) ++ ws) H := hP
  have hD : va_D A (wLArr K 1 q_o f_o (awL z_o 0 (jX v)) ++ ws) := hD
  refine lv_goto (tgt := 15) hx hb dLW_note_9 (by decide) ?_
  refine lv_iconst (v := nI 0) hx hb dLW_note_15 (by decide +kernel) ?_
  rw [← hQ]
  exact W.iret (v := nI 0) hx hb hr (fun t ht hW => ⟨⟨_, _, rfl, ⟨v, ws, rfl, hF, rfl⟩, by rw [ht]; exact hP, hD⟩, hS.F ht⟩) hS.2.2 dLW_note_16
set_option maxHeartbeats 1000000 in
theorem hx_note (l : Launch) (dC : Nat → ClassId) (dI : Nat → Nat → Nat) (K : Nat → ClassId) (q_x q_o x0 : Nat) (f_o : Nat → Int64) (z_o : Nat) (cs : va_W) {vs : List Value} (hq0 : cs[0]? = some (q_x, .inr (9, vs))) {rmC : Room} {s0 : State} {cs' : va_W} (hM : CtX (lE s0) l (dC, dI) vwCl yCW_note wc_CW_note rmC (tyK K) [.ref q_x, .int (nI x0)] cs cs' "java/lang/IndexOutOfBoundsException") (hm : cs'.map (·.1) = cs.map (·.1)) {A0 : Array Value} (h0 : ∀ w ∈ xs_own RCW 110 106 "java/lang/IndexOutOfBoundsException", w.before A0 s0 = true) : CtR (lE s0) l (dC, dI) vwCl yLW_note wc_LW_note (rmH rmC) (tyK K) [.ref q_x, .int (nI x0), .ref q_o] (wLArr K 1 q_o f_o z_o ++ cs) (fun rv ws => rv = some (.int (nI 1)) ∧ ws = wLArr K 1 q_o f_o z_o ++ cs') := by
  intro sz
  refine Met.ofWh (cc := cLW_note) (maxL := 4) (ret := (some .int)) (hs := [(0, 9, 12, 27)]) (by decide) rfl ?_
  intro p e s m args below meth c s₁ B hml htb hv
  obtain ⟨rfl, hsz, hP, hK, hD0, hE⟩ := hv
  have hx := B.exec
  have hb := B.bytes
  have hr := B.returns
  have hts := atoms_spec (ws := wc_LW_note) B.pre
  have hws : ∀ w ∈ WS, w.before _ s = true := fun w h => hts w (List.mem_cons_of_mem _ h)
  have hown : s.vm.findClass RLW = some m.cls := findClass_of_methodNamed B.named
  have hlocks := B.notSynchronized
  subst hsz
  have hD := hD0.self (sz := s.heap.size)
  generalize hAe : va_A (wLArr K 1 q_o f_o z_o ++ cs) s.heap.size = A at hD ⊢
  have hA : ∀ q : Nat, s.heap.size ≤ q → A q := fun q h => by rw [← hAe]; exact Or.inr h
  have hS : va_S A s.heap s.heap [] := va_S.rf
  have hl := lv_entry ([.ref q_x, .int (nI x0), .ref q_o]) (n := 4) (Nat.le_of_ble_eq_true rfl)
  rw [lg_entry_eq]
  generalize (lg_sl ([.ref q_x, .int (nI x0), .ref q_o]) ++ List.replicate (4 - (lg_sl ([.ref q_x, .int (nI x0), .ref q_o])).length) Slot.unset).toArray = ls at hl ⊢
  have hl : lv_has ls 4 [(0, .ref q_x), (1, .int (nI x0)), (2, .ref q_o)] := hl
  generalize ([.ref q_x, .int (nI x0), .ref q_o] : List Value).toArray = args at hts hws ⊢
  generalize hQ : MQ below _ _ _ _ _ _ = Q
  refine lv_aload_n hx hb dLW_note_0 rfl (lv_at hl 2 rfl) ?_
  refine lv_iconst (v := nI 0) hx hb dLW_note_1 (by decide +kernel) ?_
  refine lv_aload_n hx hb dLW_note_2 rfl (lv_at hl 0 rfl) ?_
  refine lv_iload_n hx hb dLW_note_3 rfl (lv_at hl 1 rfl) ?_
  refine cx_call (w0 := wLArr K 1 q_o f_o z_o) (cs := cs) (cs' := cs') (va_runXV (As := [.int (nI x0)]) (rest := [.int (nI 0), .ref q_o]) ⟨hx, hb, hml, hown, hws⟩ (hM _) ⟨cb_CW_note hws rmC (hws _ km_LW_29) ⟨Nat.le_refl _, by show 8 + (2 + 11) + rmC.locals ≤ 24 + rmC.locals; omega⟩, hws _ ki_CW_note, hws _ ke_CW_CW_note_CW_note⟩ ⟨le_blind _ _ _, va_recv (ci := 9) (q0 := 0) (q := (RCW, TCW, 9)) hK (app_P.mp hP).2 rfl hq0, le_pre hP hD hK hE hE.2.2.2 _⟩ rfl rfl hl.1 rfl (lv_room (Nat.le_of_ble_eq_true rfl)) dLW_note_4 ⟨Nat.le_refl _, Nat.le_refl _⟩) (xs_c1 hown ⟨0, 9, 12, 27⟩ [] (by rw [htb]; rfl) (by decide) (by decide) (hws _ kl_LW_27) (xs_word hE.2.2 (by decide +kernel) (h0 (.castable "java/lang/IndexOutOfBoundsException" "java/lang/IndexOutOfBoundsException") (by simp [xs_own, Bundle.ownAtoms])))) hP hD hS hA hm (fun x H locs hP hD hS => ?_)
  refine lv_astore_n hx hb dLW_note_12 rfl hl (by decide) rfl (fun ls hl => ?_)
  refine lv_iconst (v := nI 1) hx hb dLW_note_13 (by decide +kernel) ?_
  rw [← hQ]
  exact W.iret (v := nI 1) hx hb hr (fun t ht hW => ⟨⟨_, _, rfl, ⟨rfl, rfl⟩, by rw [ht]; exact hP, hD⟩, hS.F ht⟩) hS.2.2 dLW_note_14
abbrev wc_LW_show : List Cond := Cond.codeWith yLW_show cLW_show 4 (some .int) [(0, 9, 12, 13)] :: WS
set_option maxHeartbeats 1000000 in
theorem hr_show (l : Launch) (dC : Nat → ClassId) (dI : Nat → Nat → Nat) (K : Nat → ClassId) (q_x q_o x0 : Nat) (f_o : Nat → Int64) (z_o : Nat) (cs : va_W) {vs : List Value} (hq0 : cs[0]? = some (q_x, .inr (9, vs))) {rmC : Room} {s0 : State} {F : Nat → va_W → Prop} (hM : CtR (lE s0) l (dC, dI) vwCl yCW_show wc_CW_show rmC (tyK K) [.ref q_x, .int (nI x0)] cs (fun rv ws => ∃ v, rv = some (.int (nI v)) ∧ F v ws)) : CtR (lE s0) l (dC, dI) vwCl yLW_show wc_LW_show (rmH rmC) (tyK K) [.ref q_x, .int (nI x0), .ref q_o] (wLArr K 1 q_o f_o z_o ++ cs) (fun rv ws => ∃ v w, rv = some (.int (nI 0)) ∧ F v w ∧ ws = wLArr K 1 q_o f_o (awL z_o 0 (jX v)) ++ w) := by
  intro sz
  refine Met.ofWh (cc := cLW_show) (maxL := 4) (ret := (some .int)) (hs := [(0, 9, 12, 13)]) (by decide) rfl ?_
  intro p e s m args below meth c s₁ B hml htb hv
  obtain ⟨rfl, hsz, hP, hK, hD0, hE⟩ := hv
  have hx := B.exec
  have hb := B.bytes
  have hr := B.returns
  have hts := atoms_spec (ws := wc_LW_show) B.pre
  have hws : ∀ w ∈ WS, w.before _ s = true := fun w h => hts w (List.mem_cons_of_mem _ h)
  have hown : s.vm.findClass RLW = some m.cls := findClass_of_methodNamed B.named
  have hlocks := B.notSynchronized
  subst hsz
  have hD := hD0.self (sz := s.heap.size)
  generalize hAe : va_A (wLArr K 1 q_o f_o z_o ++ cs) s.heap.size = A at hD ⊢
  have hA : ∀ q : Nat, s.heap.size ≤ q → A q := fun q h => by rw [← hAe]; exact Or.inr h
  have hS : va_S A s.heap s.heap [] := va_S.rf
  have hl := lv_entry ([.ref q_x, .int (nI x0), .ref q_o]) (n := 4) (Nat.le_of_ble_eq_true rfl)
  rw [lg_entry_eq]
  generalize (lg_sl ([.ref q_x, .int (nI x0), .ref q_o]) ++ List.replicate (4 - (lg_sl ([.ref q_x, .int (nI x0), .ref q_o])).length) Slot.unset).toArray = ls at hl ⊢
  have hl : lv_has ls 4 [(0, .ref q_x), (1, .int (nI x0)), (2, .ref q_o)] := hl
  generalize ([.ref q_x, .int (nI x0), .ref q_o] : List Value).toArray = args at hts hws ⊢
  generalize hQ : MQ below _ _ _ _ _ _ = Q
  refine lv_aload_n hx hb dLW_show_0 rfl (lv_at hl 2 rfl) ?_
  refine lv_iconst (v := nI 0) hx hb dLW_show_1 (by decide +kernel) ?_
  refine lv_aload_n hx hb dLW_show_2 rfl (lv_at hl 0 rfl) ?_
  refine lv_iload_n hx hb dLW_show_3 rfl (lv_at hl 1 rfl) ?_
  refine cr_call (w0 := wLArr K 1 q_o f_o z_o) (cs := cs) (va_runV (As := [.int (nI x0)]) (rest := [.int (nI 0), .ref q_o]) ⟨hx, hb, hml, hown, hws⟩ (hM _) ⟨cb_CW_show hws rmC (hws _ km_LW_32) ⟨Nat.le_refl _, by show 8 + (2 + 11) + rmC.locals ≤ 24 + rmC.locals; omega⟩, hws _ ki_CW_show, hws _ ke_CW_CW_show_CW_show⟩ ⟨le_blind _ _ _, va_recv (ci := 9) (q0 := 0) (q := (RCW, TCW, 9)) hK (app_P.mp hP).2 rfl hq0, le_pre hP hD hK hE hE.2.2.2 _⟩ rfl rfl hl.1 rfl (lv_room (Nat.le_of_ble_eq_true rfl)) dLW_show_4 ⟨Nat.le_refl _, Nat.le_refl _⟩) hP hD hS hA (fun rv ws H locs hF hP hD hS => ?_)
  obtain ⟨v, rfl, hF⟩ := hF
  refine lx_i2l hx hb dLW_show_7 ?_
  refine lx_last hx hb hK hP hD hS 0 2 rfl rfl (by decide) dLW_show_8 (X := some 0) (r := 0) rfl (fun _ H locs hP hD hS => ?_)
  have hP : va_P (dC, dI) vwCl (wLArr K 1 q_o f_o (awL z_o 0 (jX v)) ++ ws) H := hP
  have hD : va_D A (wLArr K 1 q_o f_o (awL z_o 0 (jX v)) ++ ws) := hD
  refine lv_goto (tgt := 15) hx hb dLW_show_9 (by decide) ?_
  refine lv_iconst (v := nI 0) hx hb dLW_show_15 (by decide +kernel) ?_
  rw [← hQ]
  exact W.iret (v := nI 0) hx hb hr (fun t ht hW => ⟨⟨_, _, rfl, ⟨v, ws, rfl, hF, rfl⟩, by rw [ht]; exact hP, hD⟩, hS.F ht⟩) hS.2.2 dLW_show_16
set_option maxHeartbeats 1000000 in
theorem hx_show (l : Launch) (dC : Nat → ClassId) (dI : Nat → Nat → Nat) (K : Nat → ClassId) (q_x q_o x0 : Nat) (f_o : Nat → Int64) (z_o : Nat) (cs : va_W) {vs : List Value} (hq0 : cs[0]? = some (q_x, .inr (9, vs))) {rmC : Room} {s0 : State} {cs' : va_W} (hM : CtX (lE s0) l (dC, dI) vwCl yCW_show wc_CW_show rmC (tyK K) [.ref q_x, .int (nI x0)] cs cs' "java/lang/IllegalArgumentException") (hm : cs'.map (·.1) = cs.map (·.1)) {A0 : Array Value} (h0 : ∀ w ∈ xs_own RCW 79 75 "java/lang/IllegalArgumentException", w.before A0 s0 = true) : CtR (lE s0) l (dC, dI) vwCl yLW_show wc_LW_show (rmH rmC) (tyK K) [.ref q_x, .int (nI x0), .ref q_o] (wLArr K 1 q_o f_o z_o ++ cs) (fun rv ws => rv = some (.int (nI 1)) ∧ ws = wLArr K 1 q_o f_o z_o ++ cs') := by
  intro sz
  refine Met.ofWh (cc := cLW_show) (maxL := 4) (ret := (some .int)) (hs := [(0, 9, 12, 13)]) (by decide) rfl ?_
  intro p e s m args below meth c s₁ B hml htb hv
  obtain ⟨rfl, hsz, hP, hK, hD0, hE⟩ := hv
  have hx := B.exec
  have hb := B.bytes
  have hr := B.returns
  have hts := atoms_spec (ws := wc_LW_show) B.pre
  have hws : ∀ w ∈ WS, w.before _ s = true := fun w h => hts w (List.mem_cons_of_mem _ h)
  have hown : s.vm.findClass RLW = some m.cls := findClass_of_methodNamed B.named
  have hlocks := B.notSynchronized
  subst hsz
  have hD := hD0.self (sz := s.heap.size)
  generalize hAe : va_A (wLArr K 1 q_o f_o z_o ++ cs) s.heap.size = A at hD ⊢
  have hA : ∀ q : Nat, s.heap.size ≤ q → A q := fun q h => by rw [← hAe]; exact Or.inr h
  have hS : va_S A s.heap s.heap [] := va_S.rf
  have hl := lv_entry ([.ref q_x, .int (nI x0), .ref q_o]) (n := 4) (Nat.le_of_ble_eq_true rfl)
  rw [lg_entry_eq]
  generalize (lg_sl ([.ref q_x, .int (nI x0), .ref q_o]) ++ List.replicate (4 - (lg_sl ([.ref q_x, .int (nI x0), .ref q_o])).length) Slot.unset).toArray = ls at hl ⊢
  have hl : lv_has ls 4 [(0, .ref q_x), (1, .int (nI x0)), (2, .ref q_o)] := hl
  generalize ([.ref q_x, .int (nI x0), .ref q_o] : List Value).toArray = args at hts hws ⊢
  generalize hQ : MQ below _ _ _ _ _ _ = Q
  refine lv_aload_n hx hb dLW_show_0 rfl (lv_at hl 2 rfl) ?_
  refine lv_iconst (v := nI 0) hx hb dLW_show_1 (by decide +kernel) ?_
  refine lv_aload_n hx hb dLW_show_2 rfl (lv_at hl 0 rfl) ?_
  refine lv_iload_n hx hb dLW_show_3 rfl (lv_at hl 1 rfl) ?_
  refine cx_call (w0 := wLArr K 1 q_o f_o z_o) (cs := cs) (cs' := cs') (va_runXV (As := [.int (nI x0)]) (rest := [.int (nI 0), .ref q_o]) ⟨hx, hb, hml, hown, hws⟩ (hM _) ⟨cb_CW_show hws rmC (hws _ km_LW_32) ⟨Nat.le_refl _, by show 8 + (2 + 11) + rmC.locals ≤ 24 + rmC.locals; omega⟩, hws _ ki_CW_show, hws _ ke_CW_CW_show_CW_show⟩ ⟨le_blind _ _ _, va_recv (ci := 9) (q0 := 0) (q := (RCW, TCW, 9)) hK (app_P.mp hP).2 rfl hq0, le_pre hP hD hK hE hE.2.2.2 _⟩ rfl rfl hl.1 rfl (lv_room (Nat.le_of_ble_eq_true rfl)) dLW_show_4 ⟨Nat.le_refl _, Nat.le_refl _⟩) (xs_c1 hown ⟨0, 9, 12, 13⟩ [] (by rw [htb]; rfl) (by decide) (by decide) (hws _ kl_LW_13) (xs_word hE.2.2 (by decide +kernel) (h0 (.castable "java/lang/IllegalArgumentException" "java/lang/IllegalArgumentException") (by simp [xs_own, Bundle.ownAtoms])))) hP hD hS hA hm (fun x H locs hP hD hS => ?_)
  refine lv_astore_n hx hb dLW_show_12 rfl hl (by decide) rfl (fun ls hl => ?_)
  refine lv_iconst (v := nI 1) hx hb dLW_show_13 (by decide +kernel) ?_
  rw [← hQ]
  exact W.iret (v := nI 1) hx hb hr (fun t ht hW => ⟨⟨_, _, rfl, ⟨rfl, rfl⟩, by rw [ht]; exact hP, hD⟩, hS.F ht⟩) hS.2.2 dLW_show_14
abbrev wc_LW_take : List Cond := Cond.codeWith yLW_take cLW_take 4 (some .int) [(0, 9, 12, 13), (0, 9, 15, 38)] :: WS
set_option maxHeartbeats 1000000 in
theorem hr_take (l : Launch) (dC : Nat → ClassId) (dI : Nat → Nat → Nat) (K : Nat → ClassId) (q_x q_o x0 : Nat) (f_o : Nat → Int64) (z_o : Nat) (cs : va_W) {vs : List Value} (hq0 : cs[0]? = some (q_x, .inr (9, vs))) {rmC : Room} {s0 : State} {F : Nat → va_W → Prop} (hM : CtR (lE s0) l (dC, dI) vwCl yCW_take wc_CW_take rmC (tyK K) [.ref q_x, .int (nI x0)] cs (fun rv ws => ∃ v, rv = some (.int (nI v)) ∧ F v ws)) : CtR (lE s0) l (dC, dI) vwCl yLW_take wc_LW_take (rmH rmC) (tyK K) [.ref q_x, .int (nI x0), .ref q_o] (wLArr K 1 q_o f_o z_o ++ cs) (fun rv ws => ∃ v w, rv = some (.int (nI 0)) ∧ F v w ∧ ws = wLArr K 1 q_o f_o (awL z_o 0 (jX v)) ++ w) := by
  intro sz
  refine Met.ofWh (cc := cLW_take) (maxL := 4) (ret := (some .int)) (hs := [(0, 9, 12, 13), (0, 9, 15, 38)]) (by decide) rfl ?_
  intro p e s m args below meth c s₁ B hml htb hv
  obtain ⟨rfl, hsz, hP, hK, hD0, hE⟩ := hv
  have hx := B.exec
  have hb := B.bytes
  have hr := B.returns
  have hts := atoms_spec (ws := wc_LW_take) B.pre
  have hws : ∀ w ∈ WS, w.before _ s = true := fun w h => hts w (List.mem_cons_of_mem _ h)
  have hown : s.vm.findClass RLW = some m.cls := findClass_of_methodNamed B.named
  have hlocks := B.notSynchronized
  subst hsz
  have hD := hD0.self (sz := s.heap.size)
  generalize hAe : va_A (wLArr K 1 q_o f_o z_o ++ cs) s.heap.size = A at hD ⊢
  have hA : ∀ q : Nat, s.heap.size ≤ q → A q := fun q h => by rw [← hAe]; exact Or.inr h
  have hS : va_S A s.heap s.heap [] := va_S.rf
  have hl := lv_entry ([.ref q_x, .int (nI x0), .ref q_o]) (n := 4) (Nat.le_of_ble_eq_true rfl)
  rw [lg_entry_eq]
  generalize (lg_sl ([.ref q_x, .int (nI x0), .ref q_o]) ++ List.replicate (4 - (lg_sl ([.ref q_x, .int (nI x0), .ref q_o])).length) Slot.unset).toArray = ls at hl ⊢
  have hl : lv_has ls 4 [(0, .ref q_x), (1, .int (nI x0)), (2, .ref q_o)] := hl
  generalize ([.ref q_x, .int (nI x0), .ref q_o] : List Value).toArray = args at hts hws ⊢
  generalize hQ : MQ below _ _ _ _ _ _ = Q
  refine lv_aload_n hx hb dLW_take_0 rfl (lv_at hl 2 rfl) ?_
  refine lv_iconst (v := nI 0) hx hb dLW_take_1 (by decide +kernel) ?_
  refine lv_aload_n hx hb dLW_take_2 rfl (lv_at hl 0 rfl) ?_
  refine lv_iload_n hx hb dLW_take_3 rfl (lv_at hl 1 rfl) ?_
  refine cr_call (w0 := wLArr K 1 q_o f_o z_o) (cs := cs) (va_runV (As := [.int (nI x0)]) (rest := [.int (nI 0), .ref q_o]) ⟨hx, hb, hml, hown, hws⟩ (hM _) ⟨cb_CW_take hws rmC (hws _ km_LW_35) ⟨Nat.le_refl _, by show 8 + (2 + 11) + rmC.locals ≤ 24 + rmC.locals; omega⟩, hws _ ki_CW_take, hws _ ke_CW_CW_take_CW_take⟩ ⟨le_blind _ _ _, va_recv (ci := 9) (q0 := 0) (q := (RCW, TCW, 9)) hK (app_P.mp hP).2 rfl hq0, le_pre hP hD hK hE hE.2.2.2 _⟩ rfl rfl hl.1 rfl (lv_room (Nat.le_of_ble_eq_true rfl)) dLW_take_4 ⟨Nat.le_refl _, Nat.le_refl _⟩) hP hD hS hA (fun rv ws H locs hF hP hD hS => ?_)
  obtain ⟨v, rfl, hF⟩ := hF
  refine lx_i2l hx hb dLW_take_7 ?_
  refine lx_last hx hb hK hP hD hS 0 2 rfl rfl (by decide) dLW_take_8 (X := some 0) (r := 0) rfl (fun _ H locs hP hD hS => ?_)
  have hP : va_P (dC, dI) vwCl (wLArr K 1 q_o f_o (awL z_o 0 (jX v)) ++ ws) H := hP
  have hD : va_D A (wLArr K 1 q_o f_o (awL z_o 0 (jX v)) ++ ws) := hD
  refine lv_goto (tgt := 18) hx hb dLW_take_9 (by decide) ?_
  refine lv_iconst (v := nI 0) hx hb dLW_take_18 (by decide +kernel) ?_
  rw [← hQ]
  exact W.iret (v := nI 0) hx hb hr (fun t ht hW => ⟨⟨_, _, rfl, ⟨v, ws, rfl, hF, rfl⟩, by rw [ht]; exact hP, hD⟩, hS.F ht⟩) hS.2.2 dLW_take_19
set_option maxHeartbeats 1000000 in
theorem hx_take (l : Launch) (dC : Nat → ClassId) (dI : Nat → Nat → Nat) (K : Nat → ClassId) (q_x q_o x0 : Nat) (f_o : Nat → Int64) (z_o : Nat) (cs : va_W) {vs : List Value} (hq0 : cs[0]? = some (q_x, .inr (9, vs))) {rmC : Room} {s0 : State} {cs' : va_W} (hM : CtX (lE s0) l (dC, dI) vwCl yCW_take wc_CW_take rmC (tyK K) [.ref q_x, .int (nI x0)] cs cs' "java/lang/IllegalArgumentException") (hm : cs'.map (·.1) = cs.map (·.1)) {A0 : Array Value} (h0 : ∀ w ∈ xs_own RCW 79 75 "java/lang/IllegalArgumentException", w.before A0 s0 = true) : CtR (lE s0) l (dC, dI) vwCl yLW_take wc_LW_take (rmH rmC) (tyK K) [.ref q_x, .int (nI x0), .ref q_o] (wLArr K 1 q_o f_o z_o ++ cs) (fun rv ws => rv = some (.int (nI 1)) ∧ ws = wLArr K 1 q_o f_o z_o ++ cs') := by
  intro sz
  refine Met.ofWh (cc := cLW_take) (maxL := 4) (ret := (some .int)) (hs := [(0, 9, 12, 13), (0, 9, 15, 38)]) (by decide) rfl ?_
  intro p e s m args below meth c s₁ B hml htb hv
  obtain ⟨rfl, hsz, hP, hK, hD0, hE⟩ := hv
  have hx := B.exec
  have hb := B.bytes
  have hr := B.returns
  have hts := atoms_spec (ws := wc_LW_take) B.pre
  have hws : ∀ w ∈ WS, w.before _ s = true := fun w h => hts w (List.mem_cons_of_mem _ h)
  have hown : s.vm.findClass RLW = some m.cls := findClass_of_methodNamed B.named
  have hlocks := B.notSynchronized
  subst hsz
  have hD := hD0.self (sz := s.heap.size)
  generalize hAe : va_A (wLArr K 1 q_o f_o z_o ++ cs) s.heap.size = A at hD ⊢
  have hA : ∀ q : Nat, s.heap.size ≤ q → A q := fun q h => by rw [← hAe]; exact Or.inr h
  have hS : va_S A s.heap s.heap [] := va_S.rf
  have hl := lv_entry ([.ref q_x, .int (nI x0), .ref q_o]) (n := 4) (Nat.le_of_ble_eq_true rfl)
  rw [lg_entry_eq]
  generalize (lg_sl ([.ref q_x, .int (nI x0), .ref q_o]) ++ List.replicate (4 - (lg_sl ([.ref q_x, .int (nI x0), .ref q_o])).length) Slot.unset).toArray = ls at hl ⊢
  have hl : lv_has ls 4 [(0, .ref q_x), (1, .int (nI x0)), (2, .ref q_o)] := hl
  generalize ([.ref q_x, .int (nI x0), .ref q_o] : List Value).toArray = args at hts hws ⊢
  generalize hQ : MQ below _ _ _ _ _ _ = Q
  refine lv_aload_n hx hb dLW_take_0 rfl (lv_at hl 2 rfl) ?_
  refine lv_iconst (v := nI 0) hx hb dLW_take_1 (by decide +kernel) ?_
  refine lv_aload_n hx hb dLW_take_2 rfl (lv_at hl 0 rfl) ?_
  refine lv_iload_n hx hb dLW_take_3 rfl (lv_at hl 1 rfl) ?_
  refine cx_call (w0 := wLArr K 1 q_o f_o z_o) (cs := cs) (cs' := cs') (va_runXV (As := [.int (nI x0)]) (rest := [.int (nI 0), .ref q_o]) ⟨hx, hb, hml, hown, hws⟩ (hM _) ⟨cb_CW_take hws rmC (hws _ km_LW_35) ⟨Nat.le_refl _, by show 8 + (2 + 11) + rmC.locals ≤ 24 + rmC.locals; omega⟩, hws _ ki_CW_take, hws _ ke_CW_CW_take_CW_take⟩ ⟨le_blind _ _ _, va_recv (ci := 9) (q0 := 0) (q := (RCW, TCW, 9)) hK (app_P.mp hP).2 rfl hq0, le_pre hP hD hK hE hE.2.2.2 _⟩ rfl rfl hl.1 rfl (lv_room (Nat.le_of_ble_eq_true rfl)) dLW_take_4 ⟨Nat.le_refl _, Nat.le_refl _⟩) (xs_c1 hown ⟨0, 9, 12, 13⟩ [⟨0, 9, 15, 38⟩] (by rw [htb]; rfl) (by decide) (by decide) (hws _ kl_LW_13) (xs_word hE.2.2 (by decide +kernel) (h0 (.castable "java/lang/IllegalArgumentException" "java/lang/IllegalArgumentException") (by simp [xs_own, Bundle.ownAtoms])))) hP hD hS hA hm (fun x H locs hP hD hS => ?_)
  refine lv_astore_n hx hb dLW_take_12 rfl hl (by decide) rfl (fun ls hl => ?_)
  refine lv_iconst (v := nI 1) hx hb dLW_take_13 (by decide +kernel) ?_
  rw [← hQ]
  exact W.iret (v := nI 1) hx hb hr (fun t ht hW => ⟨⟨_, _, rfl, ⟨rfl, rfl⟩, by rw [ht]; exact hP, hD⟩, hS.F ht⟩) hS.2.2 dLW_take_14
set_option maxHeartbeats 1000000 in
theorem hx_takeS (l : Launch) (dC : Nat → ClassId) (dI : Nat → Nat → Nat) (K : Nat → ClassId) (q_x q_o x0 : Nat) (f_o : Nat → Int64) (z_o : Nat) (cs : va_W) {vs : List Value} (hq0 : cs[0]? = some (q_x, .inr (9, vs))) {rmC : Room} {s0 : State} {cs' : va_W} (hM : CtX (lE s0) l (dC, dI) vwCl yCW_take wc_CW_take rmC (tyK K) [.ref q_x, .int (nI x0)] cs cs' "java/lang/IllegalStateException") (hm : cs'.map (·.1) = cs.map (·.1)) {A0 : Array Value} (h0 : ∀ w ∈ xs_own RCW 131 127 "java/lang/IllegalStateException", w.before A0 s0 = true) (hno : (Cond.not (.castable "java/lang/IllegalStateException" "java/lang/IllegalArgumentException")).before A0 s0 = true) : CtR (lE s0) l (dC, dI) vwCl yLW_take wc_LW_take (rmH rmC) (tyK K) [.ref q_x, .int (nI x0), .ref q_o] (wLArr K 1 q_o f_o z_o ++ cs) (fun rv ws => rv = some (.int (nI 2)) ∧ ws = wLArr K 1 q_o f_o z_o ++ cs') := by
  intro sz
  refine Met.ofWh (cc := cLW_take) (maxL := 4) (ret := (some .int)) (hs := [(0, 9, 12, 13), (0, 9, 15, 38)]) (by decide) rfl ?_
  intro p e s m args below meth c s₁ B hml htb hv
  obtain ⟨rfl, hsz, hP, hK, hD0, hE⟩ := hv
  have hx := B.exec
  have hb := B.bytes
  have hr := B.returns
  have hts := atoms_spec (ws := wc_LW_take) B.pre
  have hws : ∀ w ∈ WS, w.before _ s = true := fun w h => hts w (List.mem_cons_of_mem _ h)
  have hown : s.vm.findClass RLW = some m.cls := findClass_of_methodNamed B.named
  have hlocks := B.notSynchronized
  subst hsz
  have hD := hD0.self (sz := s.heap.size)
  generalize hAe : va_A (wLArr K 1 q_o f_o z_o ++ cs) s.heap.size = A at hD ⊢
  have hA : ∀ q : Nat, s.heap.size ≤ q → A q := fun q h => by rw [← hAe]; exact Or.inr h
  have hS : va_S A s.heap s.heap [] := va_S.rf
  have hl := lv_entry ([.ref q_x, .int (nI x0), .ref q_o]) (n := 4) (Nat.le_of_ble_eq_true rfl)
  rw [lg_entry_eq]
  generalize (lg_sl ([.ref q_x, .int (nI x0), .ref q_o]) ++ List.replicate (4 - (lg_sl ([.ref q_x, .int (nI x0), .ref q_o])).length) Slot.unset).toArray = ls at hl ⊢
  have hl : lv_has ls 4 [(0, .ref q_x), (1, .int (nI x0)), (2, .ref q_o)] := hl
  generalize ([.ref q_x, .int (nI x0), .ref q_o] : List Value).toArray = args at hts hws ⊢
  generalize hQ : MQ below _ _ _ _ _ _ = Q
  refine lv_aload_n hx hb dLW_take_0 rfl (lv_at hl 2 rfl) ?_
  refine lv_iconst (v := nI 0) hx hb dLW_take_1 (by decide +kernel) ?_
  refine lv_aload_n hx hb dLW_take_2 rfl (lv_at hl 0 rfl) ?_
  refine lv_iload_n hx hb dLW_take_3 rfl (lv_at hl 1 rfl) ?_
  refine cx_call (w0 := wLArr K 1 q_o f_o z_o) (cs := cs) (cs' := cs') (va_runXV (As := [.int (nI x0)]) (rest := [.int (nI 0), .ref q_o]) ⟨hx, hb, hml, hown, hws⟩ (hM _) ⟨cb_CW_take hws rmC (hws _ km_LW_35) ⟨Nat.le_refl _, by show 8 + (2 + 11) + rmC.locals ≤ 24 + rmC.locals; omega⟩, hws _ ki_CW_take, hws _ ke_CW_CW_take_CW_take⟩ ⟨le_blind _ _ _, va_recv (ci := 9) (q0 := 0) (q := (RCW, TCW, 9)) hK (app_P.mp hP).2 rfl hq0, le_pre hP hD hK hE hE.2.2.2 _⟩ rfl rfl hl.1 rfl (lv_room (Nat.le_of_ble_eq_true rfl)) dLW_take_4 ⟨Nat.le_refl _, Nat.le_refl _⟩) (xs_c2 hown ⟨0, 9, 12, 13⟩ ⟨0, 9, 15, 38⟩ [] (by rw [htb]; rfl) (by decide) (by decide) (by decide) (by decide) (hws _ kl_LW_13) (hws _ kl_LW_38) (xs_word hE.2.2 (by decide +kernel) (h0 (.castable "java/lang/IllegalStateException" "java/lang/IllegalStateException") (by simp [xs_own, Bundle.ownAtoms]))) (xs_not hE.2.2.1 hno)) hP hD hS hA hm (fun x H locs hP hD hS => ?_)
  refine lv_astore_n hx hb dLW_take_15 rfl hl (by decide) rfl (fun ls hl => ?_)
  refine lv_iconst (v := nI 2) hx hb dLW_take_16 (by decide +kernel) ?_
  rw [← hQ]
  exact W.iret (v := nI 2) hx hb hr (fun t ht hW => ⟨⟨_, _, rfl, ⟨rfl, rfl⟩, by rw [ht]; exact hP, hD⟩, hS.F ht⟩) hS.2.2 dLW_take_17
abbrev wc_LW_flip : List Cond := Cond.codeWith yLW_flip cLW_flip 4 (some .int) [(0, 9, 12, 27)] :: WS
set_option maxHeartbeats 1000000 in
theorem hr_flip (l : Launch) (dC : Nat → ClassId) (dI : Nat → Nat → Nat) (K : Nat → ClassId) (q_x q_o x0 : Nat) (f_o : Nat → Int64) (z_o : Nat) (cs : va_W) {vs : List Value} (hq0 : cs[0]? = some (q_x, .inr (9, vs))) {rmC : Room} {s0 : State} {F : Nat → va_W → Prop} (hM : CtR (lE s0) l (dC, dI) vwCl yCW_flip wc_CW_flip rmC (tyK K) [.ref q_x, .int (nI x0)] cs (fun rv ws => ∃ v, rv = some (.int (nI v)) ∧ F v ws)) : CtR (lE s0) l (dC, dI) vwCl yLW_flip wc_LW_flip (rmH rmC) (tyK K) [.ref q_x, .int (nI x0), .ref q_o] (wLArr K 1 q_o f_o z_o ++ cs) (fun rv ws => ∃ v w, rv = some (.int (nI 0)) ∧ F v w ∧ ws = wLArr K 1 q_o f_o (awL z_o 0 (jX v)) ++ w) := by
  intro sz
  refine Met.ofWh (cc := cLW_flip) (maxL := 4) (ret := (some .int)) (hs := [(0, 9, 12, 27)]) (by decide) rfl ?_
  intro p e s m args below meth c s₁ B hml htb hv
  obtain ⟨rfl, hsz, hP, hK, hD0, hE⟩ := hv
  have hx := B.exec
  have hb := B.bytes
  have hr := B.returns
  have hts := atoms_spec (ws := wc_LW_flip) B.pre
  have hws : ∀ w ∈ WS, w.before _ s = true := fun w h => hts w (List.mem_cons_of_mem _ h)
  have hown : s.vm.findClass RLW = some m.cls := findClass_of_methodNamed B.named
  have hlocks := B.notSynchronized
  subst hsz
  have hD := hD0.self (sz := s.heap.size)
  generalize hAe : va_A (wLArr K 1 q_o f_o z_o ++ cs) s.heap.size = A at hD ⊢
  have hA : ∀ q : Nat, s.heap.size ≤ q → A q := fun q h => by rw [← hAe]; exact Or.inr h
  have hS : va_S A s.heap s.heap [] := va_S.rf
  have hl := lv_entry ([.ref q_x, .int (nI x0), .ref q_o]) (n := 4) (Nat.le_of_ble_eq_true rfl)
  rw [lg_entry_eq]
  generalize (lg_sl ([.ref q_x, .int (nI x0), .ref q_o]) ++ List.replicate (4 - (lg_sl ([.ref q_x, .int (nI x0), .ref q_o])).length) Slot.unset).toArray = ls at hl ⊢
  have hl : lv_has ls 4 [(0, .ref q_x), (1, .int (nI x0)), (2, .ref q_o)] := hl
  generalize ([.ref q_x, .int (nI x0), .ref q_o] : List Value).toArray = args at hts hws ⊢
  generalize hQ : MQ below _ _ _ _ _ _ = Q
  refine lv_aload_n hx hb dLW_flip_0 rfl (lv_at hl 2 rfl) ?_
  refine lv_iconst (v := nI 0) hx hb dLW_flip_1 (by decide +kernel) ?_
  refine lv_aload_n hx hb dLW_flip_2 rfl (lv_at hl 0 rfl) ?_
  refine lv_iload_n hx hb dLW_flip_3 rfl (lv_at hl 1 rfl) ?_
  refine cr_call (w0 := wLArr K 1 q_o f_o z_o) (cs := cs) (va_runV (As := [.int (nI x0)]) (rest := [.int (nI 0), .ref q_o]) ⟨hx, hb, hml, hown, hws⟩ (hM _) ⟨cb_CW_flip hws rmC (hws _ km_LW_40) ⟨Nat.le_refl _, by show 8 + (2 + 11) + rmC.locals ≤ 24 + rmC.locals; omega⟩, hws _ ki_CW_flip, hws _ ke_CW_CW_flip_CW_flip⟩ ⟨le_blind _ _ _, va_recv (ci := 9) (q0 := 0) (q := (RCW, TCW, 9)) hK (app_P.mp hP).2 rfl hq0, le_pre hP hD hK hE hE.2.2.2 _⟩ rfl rfl hl.1 rfl (lv_room (Nat.le_of_ble_eq_true rfl)) dLW_flip_4 ⟨Nat.le_refl _, Nat.le_refl _⟩) hP hD hS hA (fun rv ws H locs hF hP hD hS => ?_)
  obtain ⟨v, rfl, hF⟩ := hF
  refine lx_i2l hx hb dLW_flip_7 ?_
  refine lx_last hx hb hK hP hD hS 0 2 rfl rfl (by decide) dLW_flip_8 (X := some 0) (r := 0) rfl (fun _ H locs hP hD hS => ?_)
  have hP : va_P (dC, dI) vwCl (wLArr K 1 q_o f_o (awL z_o 0 (jX v)) ++ ws) H := hP
  have hD : va_D A (wLArr K 1 q_o f_o (awL z_o 0 (jX v)) ++ ws) := hD
  refine lv_goto (tgt := 15) hx hb dLW_flip_9 (by decide) ?_
  refine lv_iconst (v := nI 0) hx hb dLW_flip_15 (by decide +kernel) ?_
  rw [← hQ]
  exact W.iret (v := nI 0) hx hb hr (fun t ht hW => ⟨⟨_, _, rfl, ⟨v, ws, rfl, hF, rfl⟩, by rw [ht]; exact hP, hD⟩, hS.F ht⟩) hS.2.2 dLW_flip_16
set_option maxHeartbeats 1000000 in
theorem hx_flip (l : Launch) (dC : Nat → ClassId) (dI : Nat → Nat → Nat) (K : Nat → ClassId) (q_x q_o x0 : Nat) (f_o : Nat → Int64) (z_o : Nat) (cs : va_W) {vs : List Value} (hq0 : cs[0]? = some (q_x, .inr (9, vs))) {rmC : Room} {s0 : State} {cs' : va_W} (hM : CtX (lE s0) l (dC, dI) vwCl yCW_flip wc_CW_flip rmC (tyK K) [.ref q_x, .int (nI x0)] cs cs' "java/lang/IndexOutOfBoundsException") (hm : cs'.map (·.1) = cs.map (·.1)) {A0 : Array Value} (h0 : ∀ w ∈ xs_own RCW 110 106 "java/lang/IndexOutOfBoundsException", w.before A0 s0 = true) : CtR (lE s0) l (dC, dI) vwCl yLW_flip wc_LW_flip (rmH rmC) (tyK K) [.ref q_x, .int (nI x0), .ref q_o] (wLArr K 1 q_o f_o z_o ++ cs) (fun rv ws => rv = some (.int (nI 1)) ∧ ws = wLArr K 1 q_o f_o z_o ++ cs') := by
  intro sz
  refine Met.ofWh (cc := cLW_flip) (maxL := 4) (ret := (some .int)) (hs := [(0, 9, 12, 27)]) (by decide) rfl ?_
  intro p e s m args below meth c s₁ B hml htb hv
  obtain ⟨rfl, hsz, hP, hK, hD0, hE⟩ := hv
  have hx := B.exec
  have hb := B.bytes
  have hr := B.returns
  have hts := atoms_spec (ws := wc_LW_flip) B.pre
  have hws : ∀ w ∈ WS, w.before _ s = true := fun w h => hts w (List.mem_cons_of_mem _ h)
  have hown : s.vm.findClass RLW = some m.cls := findClass_of_methodNamed B.named
  have hlocks := B.notSynchronized
  subst hsz
  have hD := hD0.self (sz := s.heap.size)
  generalize hAe : va_A (wLArr K 1 q_o f_o z_o ++ cs) s.heap.size = A at hD ⊢
  have hA : ∀ q : Nat, s.heap.size ≤ q → A q := fun q h => by rw [← hAe]; exact Or.inr h
  have hS : va_S A s.heap s.heap [] := va_S.rf
  have hl := lv_entry ([.ref q_x, .int (nI x0), .ref q_o]) (n := 4) (Nat.le_of_ble_eq_true rfl)
  rw [lg_entry_eq]
  generalize (lg_sl ([.ref q_x, .int (nI x0), .ref q_o]) ++ List.replicate (4 - (lg_sl ([.ref q_x, .int (nI x0), .ref q_o])).length) Slot.unset).toArray = ls at hl ⊢
  have hl : lv_has ls 4 [(0, .ref q_x), (1, .int (nI x0)), (2, .ref q_o)] := hl
  generalize ([.ref q_x, .int (nI x0), .ref q_o] : List Value).toArray = args at hts hws ⊢
  generalize hQ : MQ below _ _ _ _ _ _ = Q
  refine lv_aload_n hx hb dLW_flip_0 rfl (lv_at hl 2 rfl) ?_
  refine lv_iconst (v := nI 0) hx hb dLW_flip_1 (by decide +kernel) ?_
  refine lv_aload_n hx hb dLW_flip_2 rfl (lv_at hl 0 rfl) ?_
  refine lv_iload_n hx hb dLW_flip_3 rfl (lv_at hl 1 rfl) ?_
  refine cx_call (w0 := wLArr K 1 q_o f_o z_o) (cs := cs) (cs' := cs') (va_runXV (As := [.int (nI x0)]) (rest := [.int (nI 0), .ref q_o]) ⟨hx, hb, hml, hown, hws⟩ (hM _) ⟨cb_CW_flip hws rmC (hws _ km_LW_40) ⟨Nat.le_refl _, by show 8 + (2 + 11) + rmC.locals ≤ 24 + rmC.locals; omega⟩, hws _ ki_CW_flip, hws _ ke_CW_CW_flip_CW_flip⟩ ⟨le_blind _ _ _, va_recv (ci := 9) (q0 := 0) (q := (RCW, TCW, 9)) hK (app_P.mp hP).2 rfl hq0, le_pre hP hD hK hE hE.2.2.2 _⟩ rfl rfl hl.1 rfl (lv_room (Nat.le_of_ble_eq_true rfl)) dLW_flip_4 ⟨Nat.le_refl _, Nat.le_refl _⟩) (xs_c1 hown ⟨0, 9, 12, 27⟩ [] (by rw [htb]; rfl) (by decide) (by decide) (hws _ kl_LW_27) (xs_word hE.2.2 (by decide +kernel) (h0 (.castable "java/lang/IndexOutOfBoundsException" "java/lang/IndexOutOfBoundsException") (by simp [xs_own, Bundle.ownAtoms])))) hP hD hS hA hm (fun x H locs hP hD hS => ?_)
  refine lv_astore_n hx hb dLW_flip_12 rfl hl (by decide) rfl (fun ls hl => ?_)
  refine lv_iconst (v := nI 1) hx hb dLW_flip_13 (by decide +kernel) ?_
  rw [← hQ]
  exact W.iret (v := nI 1) hx hb hr (fun t ht hW => ⟨⟨_, _, rfl, ⟨rfl, rfl⟩, by rw [ht]; exact hP, hD⟩, hS.F ht⟩) hS.2.2 dLW_flip_14
abbrev wc_LW_flips : List Cond := Cond.codeWith yLW_flips cLW_flips 4 (some .int) [(0, 9, 12, 13)] :: WS
set_option maxHeartbeats 1000000 in
theorem hr_flips (l : Launch) (dC : Nat → ClassId) (dI : Nat → Nat → Nat) (K : Nat → ClassId) (q_x q_o x0 : Nat) (f_o : Nat → Int64) (z_o : Nat) (cs : va_W) {vs : List Value} (hq0 : cs[0]? = some (q_x, .inr (9, vs))) {rmC : Room} {s0 : State} {F : Nat → va_W → Prop} (hM : CtR (lE s0) l (dC, dI) vwCl yCW_flips wc_CW_flips rmC (tyK K) [.ref q_x, .int (nI x0)] cs (fun rv ws => ∃ v, rv = some (.int (nI v)) ∧ F v ws)) : CtR (lE s0) l (dC, dI) vwCl yLW_flips wc_LW_flips (rmH rmC) (tyK K) [.ref q_x, .int (nI x0), .ref q_o] (wLArr K 1 q_o f_o z_o ++ cs) (fun rv ws => ∃ v w, rv = some (.int (nI 0)) ∧ F v w ∧ ws = wLArr K 1 q_o f_o (awL z_o 0 (jX v)) ++ w) := by
  intro sz
  refine Met.ofWh (cc := cLW_flips) (maxL := 4) (ret := (some .int)) (hs := [(0, 9, 12, 13)]) (by decide) rfl ?_
  intro p e s m args below meth c s₁ B hml htb hv
  obtain ⟨rfl, hsz, hP, hK, hD0, hE⟩ := hv
  have hx := B.exec
  have hb := B.bytes
  have hr := B.returns
  have hts := atoms_spec (ws := wc_LW_flips) B.pre
  have hws : ∀ w ∈ WS, w.before _ s = true := fun w h => hts w (List.mem_cons_of_mem _ h)
  have hown : s.vm.findClass RLW = some m.cls := findClass_of_methodNamed B.named
  have hlocks := B.notSynchronized
  subst hsz
  have hD := hD0.self (sz := s.heap.size)
  generalize hAe : va_A (wLArr K 1 q_o f_o z_o ++ cs) s.heap.size = A at hD ⊢
  have hA : ∀ q : Nat, s.heap.size ≤ q → A q := fun q h => by rw [← hAe]; exact Or.inr h
  have hS : va_S A s.heap s.heap [] := va_S.rf
  have hl := lv_entry ([.ref q_x, .int (nI x0), .ref q_o]) (n := 4) (Nat.le_of_ble_eq_true rfl)
  rw [lg_entry_eq]
  generalize (lg_sl ([.ref q_x, .int (nI x0), .ref q_o]) ++ List.replicate (4 - (lg_sl ([.ref q_x, .int (nI x0), .ref q_o])).length) Slot.unset).toArray = ls at hl ⊢
  have hl : lv_has ls 4 [(0, .ref q_x), (1, .int (nI x0)), (2, .ref q_o)] := hl
  generalize ([.ref q_x, .int (nI x0), .ref q_o] : List Value).toArray = args at hts hws ⊢
  generalize hQ : MQ below _ _ _ _ _ _ = Q
  refine lv_aload_n hx hb dLW_flips_0 rfl (lv_at hl 2 rfl) ?_
  refine lv_iconst (v := nI 0) hx hb dLW_flips_1 (by decide +kernel) ?_
  refine lv_aload_n hx hb dLW_flips_2 rfl (lv_at hl 0 rfl) ?_
  refine lv_iload_n hx hb dLW_flips_3 rfl (lv_at hl 1 rfl) ?_
  refine cr_call (w0 := wLArr K 1 q_o f_o z_o) (cs := cs) (va_runV (As := [.int (nI x0)]) (rest := [.int (nI 0), .ref q_o]) ⟨hx, hb, hml, hown, hws⟩ (hM _) ⟨cb_CW_flips hws rmC (hws _ km_LW_43) ⟨Nat.le_refl _, by show 8 + (2 + 11) + rmC.locals ≤ 24 + rmC.locals; omega⟩, hws _ ki_CW_flips, hws _ ke_CW_CW_flips_CW_flips⟩ ⟨le_blind _ _ _, va_recv (ci := 9) (q0 := 0) (q := (RCW, TCW, 9)) hK (app_P.mp hP).2 rfl hq0, le_pre hP hD hK hE hE.2.2.2 _⟩ rfl rfl hl.1 rfl (lv_room (Nat.le_of_ble_eq_true rfl)) dLW_flips_4 ⟨Nat.le_refl _, Nat.le_refl _⟩) hP hD hS hA (fun rv ws H locs hF hP hD hS => ?_)
  obtain ⟨v, rfl, hF⟩ := hF
  refine lx_i2l hx hb dLW_flips_7 ?_
  refine lx_last hx hb hK hP hD hS 0 2 rfl rfl (by decide) dLW_flips_8 (X := some 0) (r := 0) rfl (fun _ H locs hP hD hS => ?_)
  have hP : va_P (dC, dI) vwCl (wLArr K 1 q_o f_o (awL z_o 0 (jX v)) ++ ws) H := hP
  have hD : va_D A (wLArr K 1 q_o f_o (awL z_o 0 (jX v)) ++ ws) := hD
  refine lv_goto (tgt := 15) hx hb dLW_flips_9 (by decide) ?_
  refine lv_iconst (v := nI 0) hx hb dLW_flips_15 (by decide +kernel) ?_
  rw [← hQ]
  exact W.iret (v := nI 0) hx hb hr (fun t ht hW => ⟨⟨_, _, rfl, ⟨v, ws, rfl, hF, rfl⟩, by rw [ht]; exact hP, hD⟩, hS.F ht⟩) hS.2.2 dLW_flips_16
set_option maxHeartbeats 1000000 in
theorem hx_flips (l : Launch) (dC : Nat → ClassId) (dI : Nat → Nat → Nat) (K : Nat → ClassId) (q_x q_o x0 : Nat) (f_o : Nat → Int64) (z_o : Nat) (cs : va_W) {vs : List Value} (hq0 : cs[0]? = some (q_x, .inr (9, vs))) {rmC : Room} {s0 : State} {cs' : va_W} (hM : CtX (lE s0) l (dC, dI) vwCl yCW_flips wc_CW_flips rmC (tyK K) [.ref q_x, .int (nI x0)] cs cs' "java/lang/IllegalArgumentException") (hm : cs'.map (·.1) = cs.map (·.1)) {A0 : Array Value} (h0 : ∀ w ∈ xs_own RCW 79 75 "java/lang/IllegalArgumentException", w.before A0 s0 = true) : CtR (lE s0) l (dC, dI) vwCl yLW_flips wc_LW_flips (rmH rmC) (tyK K) [.ref q_x, .int (nI x0), .ref q_o] (wLArr K 1 q_o f_o z_o ++ cs) (fun rv ws => rv = some (.int (nI 1)) ∧ ws = wLArr K 1 q_o f_o z_o ++ cs') := by
  intro sz
  refine Met.ofWh (cc := cLW_flips) (maxL := 4) (ret := (some .int)) (hs := [(0, 9, 12, 13)]) (by decide) rfl ?_
  intro p e s m args below meth c s₁ B hml htb hv
  obtain ⟨rfl, hsz, hP, hK, hD0, hE⟩ := hv
  have hx := B.exec
  have hb := B.bytes
  have hr := B.returns
  have hts := atoms_spec (ws := wc_LW_flips) B.pre
  have hws : ∀ w ∈ WS, w.before _ s = true := fun w h => hts w (List.mem_cons_of_mem _ h)
  have hown : s.vm.findClass RLW = some m.cls := findClass_of_methodNamed B.named
  have hlocks := B.notSynchronized
  subst hsz
  have hD := hD0.self (sz := s.heap.size)
  generalize hAe : va_A (wLArr K 1 q_o f_o z_o ++ cs) s.heap.size = A at hD ⊢
  have hA : ∀ q : Nat, s.heap.size ≤ q → A q := fun q h => by rw [← hAe]; exact Or.inr h
  have hS : va_S A s.heap s.heap [] := va_S.rf
  have hl := lv_entry ([.ref q_x, .int (nI x0), .ref q_o]) (n := 4) (Nat.le_of_ble_eq_true rfl)
  rw [lg_entry_eq]
  generalize (lg_sl ([.ref q_x, .int (nI x0), .ref q_o]) ++ List.replicate (4 - (lg_sl ([.ref q_x, .int (nI x0), .ref q_o])).length) Slot.unset).toArray = ls at hl ⊢
  have hl : lv_has ls 4 [(0, .ref q_x), (1, .int (nI x0)), (2, .ref q_o)] := hl
  generalize ([.ref q_x, .int (nI x0), .ref q_o] : List Value).toArray = args at hts hws ⊢
  generalize hQ : MQ below _ _ _ _ _ _ = Q
  refine lv_aload_n hx hb dLW_flips_0 rfl (lv_at hl 2 rfl) ?_
  refine lv_iconst (v := nI 0) hx hb dLW_flips_1 (by decide +kernel) ?_
  refine lv_aload_n hx hb dLW_flips_2 rfl (lv_at hl 0 rfl) ?_
  refine lv_iload_n hx hb dLW_flips_3 rfl (lv_at hl 1 rfl) ?_
  refine cx_call (w0 := wLArr K 1 q_o f_o z_o) (cs := cs) (cs' := cs') (va_runXV (As := [.int (nI x0)]) (rest := [.int (nI 0), .ref q_o]) ⟨hx, hb, hml, hown, hws⟩ (hM _) ⟨cb_CW_flips hws rmC (hws _ km_LW_43) ⟨Nat.le_refl _, by show 8 + (2 + 11) + rmC.locals ≤ 24 + rmC.locals; omega⟩, hws _ ki_CW_flips, hws _ ke_CW_CW_flips_CW_flips⟩ ⟨le_blind _ _ _, va_recv (ci := 9) (q0 := 0) (q := (RCW, TCW, 9)) hK (app_P.mp hP).2 rfl hq0, le_pre hP hD hK hE hE.2.2.2 _⟩ rfl rfl hl.1 rfl (lv_room (Nat.le_of_ble_eq_true rfl)) dLW_flips_4 ⟨Nat.le_refl _, Nat.le_refl _⟩) (xs_c1 hown ⟨0, 9, 12, 13⟩ [] (by rw [htb]; rfl) (by decide) (by decide) (hws _ kl_LW_13) (xs_word hE.2.2 (by decide +kernel) (h0 (.castable "java/lang/IllegalArgumentException" "java/lang/IllegalArgumentException") (by simp [xs_own, Bundle.ownAtoms])))) hP hD hS hA hm (fun x H locs hP hD hS => ?_)
  refine lv_astore_n hx hb dLW_flips_12 rfl hl (by decide) rfl (fun ls hl => ?_)
  refine lv_iconst (v := nI 1) hx hb dLW_flips_13 (by decide +kernel) ?_
  rw [← hQ]
  exact W.iret (v := nI 1) hx hb hr (fun t ht hW => ⟨⟨_, _, rfl, ⟨rfl, rfl⟩, by rw [ht]; exact hP, hD⟩, hS.F ht⟩) hS.2.2 dLW_flips_14
