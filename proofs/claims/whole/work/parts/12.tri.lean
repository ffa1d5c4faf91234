noncomputable def f_TR_lastCorner (z_t_diagonals : Nat) : Option (Nat) := some (iA z_t_diagonals 2)
abbrev rm_TR_lastCorner : Room := { frames := 0, cells := 0, slots := 0, locals := 0 }
set_option maxHeartbeats 4000000 in
set_option maxRecDepth 100000 in
theorem ct_TR_lastCorner (l : Launch) (dC : Nat → ClassId) (dI : Nat → Nat → Nat) (K : Nat → ClassId) (q_t : Nat) (q_t_lows : Nat) (q_t_highs : Nat) (f_t_lows : Nat → Int32) (f_t_highs : Nat → Int32) (z_t_lows : Nat) (z_t_highs : Nat) (z_t_diagonals : Nat) (r : Nat) (hf : f_TR_lastCorner z_t_diagonals = some r) : Ct l (dC, dI) vwCl yTR_lastCorner wc_TR_lastCorner rm_TR_lastCorner (tyK K) [.ref q_t] (w_TR K q_t q_t_lows q_t_highs f_t_lows f_t_highs z_t_lows z_t_highs z_t_diagonals) (w_TR K q_t q_t_lows q_t_highs f_t_lows f_t_highs z_t_lows z_t_highs z_t_diagonals) (some (.int (nI r))) := by
  intro sz
  refine Met.ofW (cc := cTR_lastCorner) (maxL := 1) (ret := (some .int)) (by decide) rfl ?_
  intro p e s m args below meth c s₁ B hml hv
  obtain ⟨rfl, hsz, hP, hK, hD0⟩ := hv
  have hx := B.exec
  have hb := B.bytes
  have hr := B.returns
  have hts := atoms_spec (ws := wc_TR_lastCorner) B.pre
  have hws : ∀ w ∈ WS, w.before _ s = true := fun w h => hts w (List.mem_cons_of_mem _ h)
  have hown : s.vm.findClass RTR = some m.cls := findClass_of_methodNamed B.named
  have hlocks := B.notSynchronized
  subst hsz
  have hD := hD0.self (sz := s.heap.size)
  generalize hAe : va_A (w_TR K q_t q_t_lows q_t_highs f_t_lows f_t_highs z_t_lows z_t_highs z_t_diagonals) s.heap.size = A at hD ⊢
  have hA : ∀ q : Nat, s.heap.size ≤ q → A q := fun q h => by rw [← hAe]; exact Or.inr h
  have hS : va_S A s.heap s.heap [] := va_S.rf
  have hl := lv_entry ([.ref q_t]) (n := 1) (Nat.le_of_ble_eq_true rfl)
  rw [lg_entry_eq]
  generalize (lg_sl ([.ref q_t]) ++ List.replicate (1 - (lg_sl ([.ref q_t])).length) Slot.unset).toArray = ls at hl ⊢
  have hl : lv_has ls 1 [(0, .ref q_t)] := hl
  generalize ([.ref q_t] : List Value).toArray = args at hts hws ⊢
  generalize hQ : MQ below _ _ _ _ _ _ = Q
  unfold f_TR_lastCorner at hf
  refine lv_aload_n hx hb dTR_lastCorner_0 rfl (lv_at hl 0 rfl) ?_
  refine va_get (D := (dC, dI)) (ci := 3) (v := .int (nI z_t_diagonals)) (C := RTR) (T := TTR) (N := 3) hx hb hws uwTR hown hK hP 0 rfl rfl 2 (by decide) (hws _ kf_TR_18) (fun _ h9 => h9) rfl dTR_lastCorner_1 ?_
  refine lv_iconst (v := nI 2) hx hb dTR_lastCorner_4 (by decide +kernel) ?_
  refine lx_iadd hx hb dTR_lastCorner_5 ?_
  obtain rfl := Option.some.inj hf
  rw [← hQ]
  exact W.iret (v := nI (iA z_t_diagonals 2)) hx hb hr (fun t ht hW => ⟨⟨rfl, by rw [ht]; exact hP⟩, hS.F ht⟩) hS.2.2 dTR_lastCorner_6
noncomputable def f_TR_comesAfter (x0 : Nat) (x1 : Nat) (x2 : Nat) (z_t_lows : Nat) (z_t_highs : Nat) : Option (Nat) := (rd z_t_lows 9 x0 (fun v1 => (bif iLt x1 v1 then some 1 else (rd z_t_lows 9 x0 (fun v2 => (bif iEq v2 x1 then (rd z_t_highs 9 x0 (fun v3 => (bif iLt x2 v3 then some 1 else some 0))) else some 0))))))
abbrev rm_TR_comesAfter : Room := { frames := 0, cells := 0, slots := 0, locals := 0 }
set_option maxHeartbeats 4000000 in
set_option maxRecDepth 100000 in
theorem ct_TR_comesAfter (l : Launch) (dC : Nat → ClassId) (dI : Nat → Nat → Nat) (K : Nat → ClassId) (q_t : Nat) (q_t_lows : Nat) (q_t_highs : Nat) (f_t_lows : Nat → Int32) (f_t_highs : Nat → Int32) (x0 : Nat) (x1 : Nat) (x2 : Nat) (z_t_lows : Nat) (z_t_highs : Nat) (z_t_diagonals : Nat) (r : Nat) (hf : f_TR_comesAfter x0 x1 x2 z_t_lows z_t_highs = some r) : Ct l (dC, dI) vwCl yTR_comesAfter wc_TR_comesAfter rm_TR_comesAfter (tyK K) [.ref q_t, .int (nI x0), .int (nI x1), .int (nI x2)] (w_TR K q_t q_t_lows q_t_highs f_t_lows f_t_highs z_t_lows z_t_highs z_t_diagonals) (w_TR K q_t q_t_lows q_t_highs f_t_lows f_t_highs z_t_lows z_t_highs z_t_diagonals) (some (.int (nI r))) := by
  intro sz
  refine Met.ofW (cc := cTR_comesAfter) (maxL := 4) (ret := (some .boolean)) (by decide) rfl ?_
  intro p e s m args below meth c s₁ B hml hv
  obtain ⟨rfl, hsz, hP, hK, hD0⟩ := hv
  have hx := B.exec
  have hb := B.bytes
  have hr := B.returns
  have hts := atoms_spec (ws := wc_TR_comesAfter) B.pre
  have hws : ∀ w ∈ WS, w.before _ s = true := fun w h => hts w (List.mem_cons_of_mem _ h)
  have hown : s.vm.findClass RTR = some m.cls := findClass_of_methodNamed B.named
  have hlocks := B.notSynchronized
  subst hsz
  have hD := hD0.self (sz := s.heap.size)
  generalize hAe : va_A (w_TR K q_t q_t_lows q_t_highs f_t_lows f_t_highs z_t_lows z_t_highs z_t_diagonals) s.heap.size = A at hD ⊢
  have hA : ∀ q : Nat, s.heap.size ≤ q → A q := fun q h => by rw [← hAe]; exact Or.inr h
  have hS : va_S A s.heap s.heap [] := va_S.rf
  have hl := lv_entry ([.ref q_t, .int (nI x0), .int (nI x1), .int (nI x2)]) (n := 4) (Nat.le_of_ble_eq_true rfl)
  rw [lg_entry_eq]
  generalize (lg_sl ([.ref q_t, .int (nI x0), .int (nI x1), .int (nI x2)]) ++ List.replicate (4 - (lg_sl ([.ref q_t, .int (nI x0), .int (nI x1), .int (nI x2)])).length) Slot.unset).toArray = ls at hl ⊢
  have hl : lv_has ls 4 [(0, .ref q_t), (1, .int (nI x0)), (2, .int (nI x1)), (3, .int (nI x2))] := hl
  generalize ([.ref q_t, .int (nI x0), .int (nI x1), .int (nI x2)] : List Value).toArray = args at hts hws ⊢
  generalize hQ : MQ below _ _ _ _ _ _ = Q
  unfold f_TR_comesAfter at hf
  refine lv_aload_n hx hb dTR_comesAfter_0 rfl (lv_at hl 0 rfl) ?_
  refine va_get (D := (dC, dI)) (ci := 3) (v := .ref q_t_lows) (C := RTR) (T := TTR) (N := 3) hx hb hws uwTR hown hK hP 0 rfl rfl 0 (by decide) (hws _ kf_TR_9) (fun _ h9 => h9) rfl dTR_comesAfter_1 ?_
  refine lv_iload_n hx hb dTR_comesAfter_4 rfl (lv_at hl 1 rfl) ?_
  refine lx_iald hx hb hK hP 1 0 rfl rfl (by decide) dTR_comesAfter_5 hf (fun v1 _ hf => ?_)
  refine lv_iload_n hx hb dTR_comesAfter_6 rfl (lv_at hl 2 rfl) ?_
  refine lx_icmp_gt (tgt := 30) hx hb dTR_comesAfter_7 (by decide) hf (fun hf => ?_) (fun hf => ?_)
  · refine lv_iconst (v := nI 1) hx hb dTR_comesAfter_30 (by decide +kernel) ?_
    refine lv_goto (tgt := 35) hx hb dTR_comesAfter_31 (by decide) ?_
    obtain rfl := Option.some.inj hf
    rw [← hQ]
    exact W.zret (ty := .boolean) (v := nI 1) hx hb hr (by decide +kernel) (fun t ht hW => ⟨⟨rfl, by rw [ht]; exact hP⟩, hS.F ht⟩) hS.2.2 dTR_comesAfter_35
  · refine lv_aload_n hx hb dTR_comesAfter_10 rfl (lv_at hl 0 rfl) ?_
    refine va_get (D := (dC, dI)) (ci := 3) (v := .ref q_t_lows) (C := RTR) (T := TTR) (N := 3) hx hb hws uwTR hown hK hP 0 rfl rfl 0 (by decide) (hws _ kf_TR_9) (fun _ h9 => h9) rfl dTR_comesAfter_11 ?_
    refine lv_iload_n hx hb dTR_comesAfter_14 rfl (lv_at hl 1 rfl) ?_
    refine lx_iald hx hb hK hP 1 0 rfl rfl (by decide) dTR_comesAfter_15 hf (fun v2 _ hf => ?_)
    refine lv_iload_n hx hb dTR_comesAfter_16 rfl (lv_at hl 2 rfl) ?_
    refine lx_icmp_ne (tgt := 34) hx hb dTR_comesAfter_17 (by decide) hf (fun hf => ?_) (fun hf => ?_)
    · refine lv_iconst (v := nI 0) hx hb dTR_comesAfter_34 (by decide +kernel) ?_
      obtain rfl := Option.some.inj hf
      rw [← hQ]
      exact W.zret (ty := .boolean) (v := nI 0) hx hb hr (by decide +kernel) (fun t ht hW => ⟨⟨rfl, by rw [ht]; exact hP⟩, hS.F ht⟩) hS.2.2 dTR_comesAfter_35
    · refine lv_aload_n hx hb dTR_comesAfter_20 rfl (lv_at hl 0 rfl) ?_
      refine va_get (D := (dC, dI)) (ci := 3) (v := .ref q_t_highs) (C := RTR) (T := TTR) (N := 3) hx hb hws uwTR hown hK hP 0 rfl rfl 1 (by decide) (hws _ kf_TR_15) (fun _ h9 => h9) rfl dTR_comesAfter_21 ?_
      refine lv_iload_n hx hb dTR_comesAfter_24 rfl (lv_at hl 1 rfl) ?_
      refine lx_iald hx hb hK hP 2 0 rfl rfl (by decide) dTR_comesAfter_25 hf (fun v3 _ hf => ?_)
      refine lv_iload_n hx hb dTR_comesAfter_26 rfl (lv_at hl 3 rfl) ?_
      refine lx_icmp_le (tgt := 34) hx hb dTR_comesAfter_27 (by decide) hf (fun hf => ?_) (fun hf => ?_)
      · refine lv_iconst (v := nI 0) hx hb dTR_comesAfter_34 (by decide +kernel) ?_
        obtain rfl := Option.some.inj hf
        rw [← hQ]
        exact W.zret (ty := .boolean) (v := nI 0) hx hb hr (by decide +kernel) (fun t ht hW => ⟨⟨rfl, by rw [ht]; exact hP⟩, hS.F ht⟩) hS.2.2 dTR_comesAfter_35
      · refine lv_iconst (v := nI 1) hx hb dTR_comesAfter_30 (by decide +kernel) ?_
        refine lv_goto (tgt := 35) hx hb dTR_comesAfter_31 (by decide) ?_
        obtain rfl := Option.some.inj hf
        rw [← hQ]
        exact W.zret (ty := .boolean) (v := nI 1) hx hb hr (by decide +kernel) (fun t ht hW => ⟨⟨rfl, by rw [ht]; exact hP⟩, hS.F ht⟩) hS.2.2 dTR_comesAfter_35
noncomputable def j_TR_insert_55 (ih : Nat → Nat → Nat → Nat → Nat → Nat → Option (Nat × Nat × Nat)) (x0 : Nat) (x1 : Nat) (z_t_lows : Nat) (z_t_highs : Nat) (z_t_diagonals : Nat) (l1 : Nat) (l2 : Nat) (l3 : Nat) (y_t_lows : Nat) (y_t_highs : Nat) (y_t_diagonals : Nat) : Option (Nat × Nat × Nat) := (bif Nat.blt l3 9 then (bif Nat.blt l3 9 then some (aw y_t_lows l3 l1, aw y_t_highs l3 l2, iA y_t_diagonals 1) else none) else none)
noncomputable def b_TR_insert_5 (ih : Nat → Nat → Nat → Nat → Nat → Nat → Option (Nat × Nat × Nat)) (x0 : Nat) (x1 : Nat) (z_t_lows : Nat) (z_t_highs : Nat) (z_t_diagonals : Nat) (l1 : Nat) (l2 : Nat) (l3 : Nat) (y_t_lows : Nat) (y_t_highs : Nat) (y_t_diagonals : Nat) : Option (Nat × Nat × Nat) := (bif iLt 0 l3 then (Option.bind (f_TR_comesAfter (iS l3 1) l1 l2 y_t_lows y_t_highs) (fun q1 => (bif iEq q1 0 then (j_TR_insert_55 ih x0 x1 z_t_lows z_t_highs z_t_diagonals l1 l2 l3 y_t_lows y_t_highs y_t_diagonals) else (rd y_t_lows 9 (iS l3 1) (fun v2 => (bif Nat.blt l3 9 then (rd y_t_highs 9 (iS l3 1) (fun v3 => (bif Nat.blt l3 9 then (fz (iA l3 4294967295) (fun u4 => fz (aw y_t_lows l3 v2) (fun u5 => fz (aw y_t_highs l3 v3) (fun u6 => ih l1 l2 u4 u5 u6 y_t_diagonals)))) else none))) else none)))))) else (j_TR_insert_55 ih x0 x1 z_t_lows z_t_highs z_t_diagonals l1 l2 l3 y_t_lows y_t_highs y_t_diagonals))
noncomputable def fr_TR_insert (x0 : Nat) (x1 : Nat) (z_t_lows : Nat) (z_t_highs : Nat) (z_t_diagonals : Nat) (k : Nat) : Nat → Nat → Nat → Nat → Nat → Nat → Option (Nat × Nat × Nat) := Nat.rec (motive := fun _ => Nat → Nat → Nat → Nat → Nat → Nat → Option (Nat × Nat × Nat)) (fun _ _ _ _ _ _ => none) (fun _ ih a0 a1 a2 a3 a4 a5 => b_TR_insert_5 ih x0 x1 z_t_lows z_t_highs z_t_diagonals a0 a1 a2 a3 a4 a5) k
theorem frs_TR_insert_5 (x0 : Nat) (x1 : Nat) (z_t_lows : Nat) (z_t_highs : Nat) (z_t_diagonals : Nat) (k : Nat) (l1 : Nat) (l2 : Nat) (l3 : Nat) (y_t_lows : Nat) (y_t_highs : Nat) (y_t_diagonals : Nat) : fr_TR_insert x0 x1 z_t_lows z_t_highs z_t_diagonals (k + 1) l1 l2 l3 y_t_lows y_t_highs y_t_diagonals = b_TR_insert_5 (fr_TR_insert x0 x1 z_t_lows z_t_highs z_t_diagonals k) x0 x1 z_t_lows z_t_highs z_t_diagonals l1 l2 l3 y_t_lows y_t_highs y_t_diagonals := rfl
noncomputable def e_TR_insert (ih : Nat → Nat → Nat → Nat → Nat → Nat → Option (Nat × Nat × Nat)) (x0 : Nat) (x1 : Nat) (z_t_lows : Nat) (z_t_highs : Nat) (z_t_diagonals : Nat) : Option (Nat × Nat × Nat) := (ih x0 x1 z_t_diagonals z_t_lows z_t_highs z_t_diagonals)
noncomputable def f_TR_insert (x0 : Nat) (x1 : Nat) (z_t_lows : Nat) (z_t_highs : Nat) (z_t_diagonals : Nat) : Option (Nat × Nat × Nat) := e_TR_insert (fr_TR_insert x0 x1 z_t_lows z_t_highs z_t_diagonals 1000000) x0 x1 z_t_lows z_t_highs z_t_diagonals
abbrev rm_TR_insert : Room := { frames := 1, cells := 0, slots := 0, locals := 23 }
set_option maxHeartbeats 4000000 in
set_option maxRecDepth 100000 in
theorem ct_TR_insert (l : Launch) (dC : Nat → ClassId) (dI : Nat → Nat → Nat) (K : Nat → ClassId) (q_t : Nat) (q_t_lows : Nat) (q_t_highs : Nat) (f_t_lows : Nat → Int32) (f_t_highs : Nat → Int32) (x0 : Nat) (x1 : Nat) (z_t_lows : Nat) (z_t_highs : Nat) (z_t_diagonals : Nat) (r : Nat × Nat × Nat) (hf : f_TR_insert x0 x1 z_t_lows z_t_highs z_t_diagonals = some r) : Ct l (dC, dI) vwCl yTR_insert wc_TR_insert rm_TR_insert (tyK K) [.ref q_t, .int (nI x0), .int (nI x1)] (w_TR K q_t q_t_lows q_t_highs f_t_lows f_t_highs z_t_lows z_t_highs z_t_diagonals) (w_TR K q_t q_t_lows q_t_highs f_t_lows f_t_highs r.1 r.2.1 r.2.2) none := by
  intro sz
  refine Met.ofW (cc := cTR_insert) (maxL := 4) (ret := none) (by decide) rfl ?_
  intro p e s m args below meth c s₁ B hml hv
  obtain ⟨rfl, hsz, hP, hK, hD0⟩ := hv
  have hx := B.exec
  have hb := B.bytes
  have hr := B.returns
  have hts := atoms_spec (ws := wc_TR_insert) B.pre
  have hws : ∀ w ∈ WS, w.before _ s = true := fun w h => hts w (List.mem_cons_of_mem _ h)
  have hown : s.vm.findClass RTR = some m.cls := findClass_of_methodNamed B.named
  have hlocks := B.notSynchronized
  subst hsz
  have hD := hD0.self (sz := s.heap.size)
  generalize hAe : va_A (w_TR K q_t q_t_lows q_t_highs f_t_lows f_t_highs z_t_lows z_t_highs z_t_diagonals) s.heap.size = A at hD ⊢
  have hA : ∀ q : Nat, s.heap.size ≤ q → A q := fun q h => by rw [← hAe]; exact Or.inr h
  have hS : va_S A s.heap s.heap [] := va_S.rf
  have hl := lv_entry ([.ref q_t, .int (nI x0), .int (nI x1)]) (n := 4) (Nat.le_of_ble_eq_true rfl)
  rw [lg_entry_eq]
  generalize (lg_sl ([.ref q_t, .int (nI x0), .int (nI x1)]) ++ List.replicate (4 - (lg_sl ([.ref q_t, .int (nI x0), .int (nI x1)])).length) Slot.unset).toArray = ls at hl ⊢
  have hl : lv_has ls 4 [(0, .ref q_t), (1, .int (nI x0)), (2, .int (nI x1))] := hl
  generalize ([.ref q_t, .int (nI x0), .int (nI x1)] : List Value).toArray = args at hts hws ⊢
  generalize hQ : MQ below _ _ _ _ _ _ = Q
  have hj_55 : ∀ (ih : Nat → Nat → Nat → Nat → Nat → Nat → Option (Nat × Nat × Nat)) (IH : (∀ (l1 l2 l3 y_t_lows y_t_highs y_t_diagonals : Nat) (H : Heap) (locs : List Loc) (ls : Array Slot), ih l1 l2 l3 y_t_lows y_t_highs y_t_diagonals = some r → lv_has ls 4 [(0, .ref q_t), (1, .int (nI l1)), (2, .int (nI l2)), (3, .int (nI l3))] → va_P (dC, dI) vwCl (w_TR K q_t q_t_lows q_t_highs f_t_lows f_t_highs y_t_lows y_t_highs y_t_diagonals) H → va_D A (w_TR K q_t q_t_lows q_t_highs f_t_lows f_t_highs y_t_lows y_t_highs y_t_diagonals) → va_S A s.heap H locs → W p l e (headSpec wc_TR_insert rm_TR_insert).room s m args below meth c H locs 0 0 Q (F0 m 5 ls []))), ∀ (l1 l2 l3 y_t_lows y_t_highs y_t_diagonals : Nat) (H : Heap) (locs : List Loc) (ls : Array Slot), j_TR_insert_55 ih x0 x1 z_t_lows z_t_highs z_t_diagonals l1 l2 l3 y_t_lows y_t_highs y_t_diagonals = some r → lv_has ls 4 [(0, .ref q_t), (1, .int (nI l1)), (2, .int (nI l2)), (3, .int (nI l3))] → va_P (dC, dI) vwCl (w_TR K q_t q_t_lows q_t_highs f_t_lows f_t_highs y_t_lows y_t_highs y_t_diagonals) H → va_D A (w_TR K q_t q_t_lows q_t_highs f_t_lows f_t_highs y_t_lows y_t_highs y_t_diagonals) → va_S A s.heap H locs → W p l e (headSpec wc_TR_insert rm_TR_insert).room s m args below meth c H locs 0 0 Q (F0 m 55 ls []) := by
    intro ih IH l1 l2 l3 y_t_lows y_t_highs y_t_diagonals H locs ls hf hl hP hD hS
    unfold j_TR_insert_55 at hf
    refine lv_aload_n hx hb dTR_insert_55 rfl (lv_at hl 0 rfl) ?_
    refine va_get (D := (dC, dI)) (ci := 3) (v := .ref q_t_lows) (C := RTR) (T := TTR) (N := 3) hx hb hws uwTR hown hK hP 0 rfl rfl 0 (by decide) (hws _ kf_TR_9) (fun _ h9 => h9) rfl dTR_insert_56 ?_
    refine lv_iload_n hx hb dTR_insert_59 rfl (lv_at hl 3 rfl) ?_
    refine lv_iload_n hx hb dTR_insert_60 rfl (lv_at hl 1 rfl) ?_
    refine lx_iast hx hb hK hP hD hS 1 0 rfl rfl (by decide) dTR_insert_61 hf (fun hf H locs hP hD hS => ?_)
    have hP : va_P (dC, dI) vwCl (w_TR K q_t q_t_lows q_t_highs f_t_lows f_t_highs (aw y_t_lows l3 l1) y_t_highs y_t_diagonals) H := hP
    have hD : va_D A (w_TR K q_t q_t_lows q_t_highs f_t_lows f_t_highs (aw y_t_lows l3 l1) y_t_highs y_t_diagonals) := hD
    refine lv_aload_n hx hb dTR_insert_62 rfl (lv_at hl 0 rfl) ?_
    refine va_get (D := (dC, dI)) (ci := 3) (v := .ref q_t_highs) (C := RTR) (T := TTR) (N := 3) hx hb hws uwTR hown hK hP 0 rfl rfl 1 (by decide) (hws _ kf_TR_15) (fun _ h9 => h9) rfl dTR_insert_63 ?_
    refine lv_iload_n hx hb dTR_insert_66 rfl (lv_at hl 3 rfl) ?_
    refine lv_iload_n hx hb dTR_insert_67 rfl (lv_at hl 2 rfl) ?_
    refine lx_iast hx hb hK hP hD hS 2 0 rfl rfl (by decide) dTR_insert_68 hf (fun hf H locs hP hD hS => ?_)
    have hP : va_P (dC, dI) vwCl (w_TR K q_t q_t_lows q_t_highs f_t_lows f_t_highs (aw y_t_lows l3 l1) (aw y_t_highs l3 l2) y_t_diagonals) H := hP
    have hD : va_D A (w_TR K q_t q_t_lows q_t_highs f_t_lows f_t_highs (aw y_t_lows l3 l1) (aw y_t_highs l3 l2) y_t_diagonals) := hD
    refine lv_aload_n hx hb dTR_insert_69 rfl (lv_at hl 0 rfl) ?_
    refine lv_dup hx hb dTR_insert_70 rfl ?_
    refine va_get (D := (dC, dI)) (ci := 3) (v := .int (nI y_t_diagonals)) (C := RTR) (T := TTR) (N := 3) hx hb hws uwTR hown hK hP 0 rfl rfl 2 (by decide) (hws _ kf_TR_18) (fun _ h9 => h9) rfl dTR_insert_71 ?_
    refine lv_iconst (v := nI 1) hx hb dTR_insert_74 (by decide +kernel) ?_
    refine lx_iadd hx hb dTR_insert_75 ?_
    refine va_put (D := (dC, dI)) (ci := 3) (v := .int (nI (iA y_t_diagonals 1))) (ty := .int) (C := RTR) (T := TTR) (N := 3) hx hb hws uwTR tyTR okTR nmTR hown hK hP hD hS 0 rfl rfl 2 (by decide) (hws _ kf_TR_18) (fun _ h9 => h9) rfl (by decide +kernel) rfl rfl (Nat.le_of_ble_eq_true rfl) dTR_insert_76 (fun H locs hP hD hS => ?_)
    have hP : va_P (dC, dI) vwCl (w_TR K q_t q_t_lows q_t_highs f_t_lows f_t_highs (aw y_t_lows l3 l1) (aw y_t_highs l3 l2) (iA y_t_diagonals 1)) H := hP
    have hD : va_D A (w_TR K q_t q_t_lows q_t_highs f_t_lows f_t_highs (aw y_t_lows l3 l1) (aw y_t_highs l3 l2) (iA y_t_diagonals 1)) := hD
    obtain rfl := Option.some.inj hf
    rw [← hQ]
    exact W.vret hx hb hr (fun t ht hW => ⟨⟨rfl, by rw [ht]; exact hP⟩, hS.F ht⟩) hS.2.2 dTR_insert_79
  have hb_5 : ∀ (ih : Nat → Nat → Nat → Nat → Nat → Nat → Option (Nat × Nat × Nat)) (IH : (∀ (l1 l2 l3 y_t_lows y_t_highs y_t_diagonals : Nat) (H : Heap) (locs : List Loc) (ls : Array Slot), ih l1 l2 l3 y_t_lows y_t_highs y_t_diagonals = some r → lv_has ls 4 [(0, .ref q_t), (1, .int (nI l1)), (2, .int (nI l2)), (3, .int (nI l3))] → va_P (dC, dI) vwCl (w_TR K q_t q_t_lows q_t_highs f_t_lows f_t_highs y_t_lows y_t_highs y_t_diagonals) H → va_D A (w_TR K q_t q_t_lows q_t_highs f_t_lows f_t_highs y_t_lows y_t_highs y_t_diagonals) → va_S A s.heap H locs → W p l e (headSpec wc_TR_insert rm_TR_insert).room s m args below meth c H locs 0 0 Q (F0 m 5 ls []))), ∀ (l1 l2 l3 y_t_lows y_t_highs y_t_diagonals : Nat) (H : Heap) (locs : List Loc) (ls : Array Slot), b_TR_insert_5 ih x0 x1 z_t_lows z_t_highs z_t_diagonals l1 l2 l3 y_t_lows y_t_highs y_t_diagonals = some r → lv_has ls 4 [(0, .ref q_t), (1, .int (nI l1)), (2, .int (nI l2)), (3, .int (nI l3))] → va_P (dC, dI) vwCl (w_TR K q_t q_t_lows q_t_highs f_t_lows f_t_highs y_t_lows y_t_highs y_t_diagonals) H → va_D A (w_TR K q_t q_t_lows q_t_highs f_t_lows f_t_highs y_t_lows y_t_highs y_t_diagonals) → va_S A s.heap H locs → W p l e (headSpec wc_TR_insert rm_TR_insert).room s m args below meth c H locs 0 0 Q (F0 m 5 ls []) := by
    intro ih IH l1 l2 l3 y_t_lows y_t_highs y_t_diagonals H locs ls hf hl hP hD hS
    unfold b_TR_insert_5 at hf
    refine lv_iload_n hx hb dTR_insert_5 rfl (lv_at hl 3 rfl) ?_
    refine lx_if_le (tgt := 55) hx hb dTR_insert_6 (by decide) hf (fun hf => ?_) (fun hf => ?_)
    · exact hj_55 _ IH l1 l2 l3 y_t_lows y_t_highs y_t_diagonals _ _ _ hf (lv_sub hl [0, 1, 2, 3] rfl) hP hD hS
    · refine lv_aload_n hx hb dTR_insert_9 rfl (lv_at hl 0 rfl) ?_
      refine lv_iload_n hx hb dTR_insert_10 rfl (lv_at hl 3 rfl) ?_
      refine lv_iconst (v := nI 1) hx hb dTR_insert_11 (by decide +kernel) ?_
      refine lx_isub hx hb dTR_insert_12 ?_
      refine lv_iload_n hx hb dTR_insert_13 rfl (lv_at hl 1 rfl) ?_
      refine lv_iload_n hx hb dTR_insert_14 rfl (lv_at hl 2 rfl) ?_
      obtain ⟨q1, hq, hf⟩ := bd_s hf
      refine ct_callr (ws' := w_TR K q_t q_t_lows q_t_highs f_t_lows f_t_highs y_t_lows y_t_highs y_t_diagonals) (va_runV (As := [.int (nI (iS l3 1)), .int (nI l1), .int (nI l2)]) (rest := []) ⟨hx, hb, hml, hown, hws⟩ (ct_TR_comesAfter l dC dI K q_t q_t_lows q_t_highs f_t_lows f_t_highs (iS l3 1) l1 l2 y_t_lows y_t_highs y_t_diagonals q1 hq _) ⟨cb_TR_comesAfter hws rm_TR_comesAfter (hws _ km_TR_53) ⟨Nat.le_of_ble_eq_true rfl, Nat.le_of_ble_eq_true rfl⟩, hws _ ki_TR_comesAfter, hws _ ke_TR_TR_comesAfter_TR_comesAfter⟩ ⟨ct_blind _ _ _, va_recv (ci := 3) (q0 := 0) (q := (RTR, TTR, 3)) hK hP rfl rfl, ct_pre (cs := (w_TR K q_t q_t_lows q_t_highs f_t_lows f_t_highs y_t_lows y_t_highs y_t_diagonals)) hP hD hK [0, 1, 2] (by decide) rfl _⟩ rfl rfl hl.1 rfl (lv_room (Nat.le_of_ble_eq_true rfl)) dTR_insert_15 ⟨Nat.le_of_ble_eq_true rfl, Nat.le_of_ble_eq_true rfl⟩) hP hD hS hA [0, 1, 2] rfl rfl rfl rfl (fun H locs hP hD hS => ?_)
      refine lx_if_eq (tgt := 55) hx hb dTR_insert_18 (by decide) hf (fun hf => ?_) (fun hf => ?_)
      · exact hj_55 _ IH l1 l2 l3 y_t_lows y_t_highs y_t_diagonals _ _ _ hf (lv_sub hl [0, 1, 2, 3] rfl) hP hD hS
      · refine lv_aload_n hx hb dTR_insert_21 rfl (lv_at hl 0 rfl) ?_
        refine va_get (D := (dC, dI)) (ci := 3) (v := .ref q_t_lows) (C := RTR) (T := TTR) (N := 3) hx hb hws uwTR hown hK hP 0 rfl rfl 0 (by decide) (hws _ kf_TR_9) (fun _ h9 => h9) rfl dTR_insert_22 ?_
        refine lv_iload_n hx hb dTR_insert_25 rfl (lv_at hl 3 rfl) ?_
        refine lv_aload_n hx hb dTR_insert_26 rfl (lv_at hl 0 rfl) ?_
        refine va_get (D := (dC, dI)) (ci := 3) (v := .ref q_t_lows) (C := RTR) (T := TTR) (N := 3) hx hb hws uwTR hown hK hP 0 rfl rfl 0 (by decide) (hws _ kf_TR_9) (fun _ h9 => h9) rfl dTR_insert_27 ?_
        refine lv_iload_n hx hb dTR_insert_30 rfl (lv_at hl 3 rfl) ?_
        refine lv_iconst (v := nI 1) hx hb dTR_insert_31 (by decide +kernel) ?_
        refine lx_isub hx hb dTR_insert_32 ?_
        refine lx_iald hx hb hK hP 1 0 rfl rfl (by decide) dTR_insert_33 hf (fun v2 _ hf => ?_)
        refine lx_iast hx hb hK hP hD hS 1 0 rfl rfl (by decide) dTR_insert_34 hf (fun hf H locs hP hD hS => ?_)
        have hP : va_P (dC, dI) vwCl (w_TR K q_t q_t_lows q_t_highs f_t_lows f_t_highs (aw y_t_lows l3 v2) y_t_highs y_t_diagonals) H := hP
        have hD : va_D A (w_TR K q_t q_t_lows q_t_highs f_t_lows f_t_highs (aw y_t_lows l3 v2) y_t_highs y_t_diagonals) := hD
        refine lv_aload_n hx hb dTR_insert_35 rfl (lv_at hl 0 rfl) ?_
        refine va_get (D := (dC, dI)) (ci := 3) (v := .ref q_t_highs) (C := RTR) (T := TTR) (N := 3) hx hb hws uwTR hown hK hP 0 rfl rfl 1 (by decide) (hws _ kf_TR_15) (fun _ h9 => h9) rfl dTR_insert_36 ?_
        refine lv_iload_n hx hb dTR_insert_39 rfl (lv_at hl 3 rfl) ?_
        refine lv_aload_n hx hb dTR_insert_40 rfl (lv_at hl 0 rfl) ?_
        refine va_get (D := (dC, dI)) (ci := 3) (v := .ref q_t_highs) (C := RTR) (T := TTR) (N := 3) hx hb hws uwTR hown hK hP 0 rfl rfl 1 (by decide) (hws _ kf_TR_15) (fun _ h9 => h9) rfl dTR_insert_41 ?_
        refine lv_iload_n hx hb dTR_insert_44 rfl (lv_at hl 3 rfl) ?_
        refine lv_iconst (v := nI 1) hx hb dTR_insert_45 (by decide +kernel) ?_
        refine lx_isub hx hb dTR_insert_46 ?_
        refine lx_iald hx hb hK hP 2 0 rfl rfl (by decide) dTR_insert_47 hf (fun v3 _ hf => ?_)
        refine lx_iast hx hb hK hP hD hS 2 0 rfl rfl (by decide) dTR_insert_48 hf (fun hf H locs hP hD hS => ?_)
        have hP : va_P (dC, dI) vwCl (w_TR K q_t q_t_lows q_t_highs f_t_lows f_t_highs (aw y_t_lows l3 v2) (aw y_t_highs l3 v3) y_t_diagonals) H := hP
        have hD : va_D A (w_TR K q_t q_t_lows q_t_highs f_t_lows f_t_highs (aw y_t_lows l3 v2) (aw y_t_highs l3 v3) y_t_diagonals) := hD
        refine lx_iinc (k := 3) (d := 4294967295) hx hb dTR_insert_49 hl rfl (by decide +kernel) (by decide) rfl (fun ls hl => ?_)
        refine lv_goto (tgt := 5) hx hb dTR_insert_52 (by decide) ?_
        have hf := fz_s hf
        have hf := fz_s hf
        have hf := fz_s hf
        exact IH l1 l2 (iA l3 4294967295) (aw y_t_lows l3 v2) (aw y_t_highs l3 v3) y_t_diagonals _ _ _ hf (lv_sub hl [1, 2, 3, 0] rfl) hP hD hS
  have key : ∀ k : Nat, (∀ (l1 l2 l3 y_t_lows y_t_highs y_t_diagonals : Nat) (H : Heap) (locs : List Loc) (ls : Array Slot), fr_TR_insert x0 x1 z_t_lows z_t_highs z_t_diagonals k l1 l2 l3 y_t_lows y_t_highs y_t_diagonals = some r → lv_has ls 4 [(0, .ref q_t), (1, .int (nI l1)), (2, .int (nI l2)), (3, .int (nI l3))] → va_P (dC, dI) vwCl (w_TR K q_t q_t_lows q_t_highs f_t_lows f_t_highs y_t_lows y_t_highs y_t_diagonals) H → va_D A (w_TR K q_t q_t_lows q_t_highs f_t_lows f_t_highs y_t_lows y_t_highs y_t_diagonals) → va_S A s.heap H locs → W p l e (headSpec wc_TR_insert rm_TR_insert).room s m args below meth c H locs 0 0 Q (F0 m 5 ls [])) := by
    intro k
    induction k with
    | zero => exact fun l1 l2 l3 y_t_lows y_t_highs y_t_diagonals H locs ls hf _ _ _ _ => no_s (α := Nat × Nat × Nat) (r := r) hf
    | succ k IH => exact fun l1 l2 l3 y_t_lows y_t_highs y_t_diagonals H locs ls hf => hb_5 (fr_TR_insert x0 x1 z_t_lows z_t_highs z_t_diagonals k) IH l1 l2 l3 y_t_lows y_t_highs y_t_diagonals H locs ls ((frs_TR_insert_5 x0 x1 z_t_lows z_t_highs z_t_diagonals k l1 l2 l3 y_t_lows y_t_highs y_t_diagonals).symm.trans hf)
  have IH := key 1000000
  have hf : e_TR_insert (fr_TR_insert x0 x1 z_t_lows z_t_highs z_t_diagonals 1000000) x0 x1 z_t_lows z_t_highs z_t_diagonals = some r := hf
  unfold e_TR_insert at hf
  generalize fr_TR_insert x0 x1 z_t_lows z_t_highs z_t_diagonals 1000000 = ih at hf IH
  refine lv_aload_n hx hb dTR_insert_0 rfl (lv_at hl 0 rfl) ?_
  refine va_get (D := (dC, dI)) (ci := 3) (v := .int (nI z_t_diagonals)) (C := RTR) (T := TTR) (N := 3) hx hb hws uwTR hown hK hP 0 rfl rfl 2 (by decide) (hws _ kf_TR_18) (fun _ h9 => h9) rfl dTR_insert_1 ?_
  refine lv_istore_n hx hb dTR_insert_4 rfl hl (by decide) rfl (fun ls hl => ?_)
  exact IH x0 x1 z_t_diagonals z_t_lows z_t_highs z_t_diagonals _ _ _ hf (lv_sub hl [1, 2, 3, 0] rfl) hP hD hS
noncomputable def j_TR_draw_51 (ih : Nat → Nat → Nat → Nat → Nat → Option (Nat × Nat × Nat)) (z_t_lows : Nat) (z_t_highs : Nat) (z_t_diagonals : Nat) (z_p0_bits : Nat) (z_p0_pairs : Nat) (l2 : Nat) (l3 : Nat) (y_t_lows : Nat) (y_t_highs : Nat) (y_t_diagonals : Nat) : Option (Nat × Nat × Nat) := (fz (iA l3 1) (fun u10 => ih l2 u10 y_t_lows y_t_highs y_t_diagonals))
noncomputable def b_TR_draw_9 (ih : Nat → Nat → Nat → Nat → Nat → Option (Nat × Nat × Nat)) (z_t_lows : Nat) (z_t_highs : Nat) (z_t_diagonals : Nat) (z_p0_bits : Nat) (z_p0_pairs : Nat) (l2 : Nat) (l3 : Nat) (y_t_lows : Nat) (y_t_highs : Nat) (y_t_diagonals : Nat) : Option (Nat × Nat × Nat) := (Option.bind (f_WD_length z_p0_pairs) (fun q1 => (bif iLt l3 q1 then (Option.bind (f_WD_isOne l3 z_p0_bits z_p0_pairs) (fun q2 => (bif iEq q2 0 then (fz (iA l2 1) (fun u9 => j_TR_draw_51 ih z_t_lows z_t_highs z_t_diagonals z_p0_bits z_p0_pairs u9 l3 y_t_lows y_t_highs y_t_diagonals)) else (bif iLt 0 l3 then (Option.bind (f_WD_fall l3 z_p0_bits z_p0_pairs) (fun q3 => (Option.bind (f_WD_zerosBefore q3 z_p0_bits z_p0_pairs) (fun q4 => (Option.bind (f_TR_insert l2 (iA q4 1) y_t_lows y_t_highs y_t_diagonals) (fun q5 => (fz q5.1 (fun u6 => fz q5.2.1 (fun u7 => fz q5.2.2 (fun u8 => j_TR_draw_51 ih z_t_lows z_t_highs z_t_diagonals z_p0_bits z_p0_pairs l2 l3 u6 u7 u8)))))))))) else (j_TR_draw_51 ih z_t_lows z_t_highs z_t_diagonals z_p0_bits z_p0_pairs l2 l3 y_t_lows y_t_highs y_t_diagonals))))) else some (y_t_lows, y_t_highs, y_t_diagonals))))
noncomputable def fr_TR_draw (z_t_lows : Nat) (z_t_highs : Nat) (z_t_diagonals : Nat) (z_p0_bits : Nat) (z_p0_pairs : Nat) (k : Nat) : Nat → Nat → Nat → Nat → Nat → Option (Nat × Nat × Nat) := Nat.rec (motive := fun _ => Nat → Nat → Nat → Nat → Nat → Option (Nat × Nat × Nat)) (fun _ _ _ _ _ => none) (fun _ ih a0 a1 a2 a3 a4 => b_TR_draw_9 ih z_t_lows z_t_highs z_t_diagonals z_p0_bits z_p0_pairs a0 a1 a2 a3 a4) k
theorem frs_TR_draw_9 (z_t_lows : Nat) (z_t_highs : Nat) (z_t_diagonals : Nat) (z_p0_bits : Nat) (z_p0_pairs : Nat) (k : Nat) (l2 : Nat) (l3 : Nat) (y_t_lows : Nat) (y_t_highs : Nat) (y_t_diagonals : Nat) : fr_TR_draw z_t_lows z_t_highs z_t_diagonals z_p0_bits z_p0_pairs (k + 1) l2 l3 y_t_lows y_t_highs y_t_diagonals = b_TR_draw_9 (fr_TR_draw z_t_lows z_t_highs z_t_diagonals z_p0_bits z_p0_pairs k) z_t_lows z_t_highs z_t_diagonals z_p0_bits z_p0_pairs l2 l3 y_t_lows y_t_highs y_t_diagonals := rfl
noncomputable def e_TR_draw (ih : Nat → Nat → Nat → Nat → Nat → Option (Nat × Nat × Nat)) (z_t_lows : Nat) (z_t_highs : Nat) (z_t_diagonals : Nat) (z_p0_bits : Nat) (z_p0_pairs : Nat) : Option (Nat × Nat × Nat) := (ih 0 0 z_t_lows z_t_highs 0)
noncomputable def f_TR_draw (z_t_lows : Nat) (z_t_highs : Nat) (z_t_diagonals : Nat) (z_p0_bits : Nat) (z_p0_pairs : Nat) : Option (Nat × Nat × Nat) := e_TR_draw (fr_TR_draw z_t_lows z_t_highs z_t_diagonals z_p0_bits z_p0_pairs 1000000) z_t_lows z_t_highs z_t_diagonals z_p0_bits z_p0_pairs
abbrev rm_TR_draw : Room := { frames := 3, cells := 0, slots := 0, locals := 64 }
set_option maxHeartbeats 4000000 in
set_option maxRecDepth 100000 in
theorem ct_TR_draw (l : Launch) (dC : Nat → ClassId) (dI : Nat → Nat → Nat) (K : Nat → ClassId) (q_t : Nat) (q_t_lows : Nat) (q_t_highs : Nat) (q_p0 : Nat) (q_p0_bits : Nat) (q_p0_closings : Nat) (f_t_lows : Nat → Int32) (f_t_highs : Nat → Int32) (f_p0_bits : Nat → Int32) (f_p0_closings : Nat → Int32) (z_t_lows : Nat) (z_t_highs : Nat) (z_t_diagonals : Nat) (z_p0_bits : Nat) (z_p0_closings : Nat) (z_p0_pairs : Nat) (r : Nat × Nat × Nat) (hf : f_TR_draw z_t_lows z_t_highs z_t_diagonals z_p0_bits z_p0_pairs = some r) : Ct l (dC, dI) vwCl yTR_draw wc_TR_draw rm_TR_draw (tyK K) [.ref q_t, .ref q_p0] ((w_TR K q_t q_t_lows q_t_highs f_t_lows f_t_highs z_t_lows z_t_highs z_t_diagonals) ++ (w_WD K q_p0 q_p0_bits q_p0_closings f_p0_bits f_p0_closings z_p0_bits z_p0_closings z_p0_pairs)) ((w_TR K q_t q_t_lows q_t_highs f_t_lows f_t_highs r.1 r.2.1 r.2.2) ++ (w_WD K q_p0 q_p0_bits q_p0_closings f_p0_bits f_p0_closings z_p0_bits z_p0_closings z_p0_pairs)) none := by
  intro sz
  refine Met.ofW (cc := cTR_draw) (maxL := 4) (ret := none) (by decide) rfl ?_
  intro p e s m args below meth c s₁ B hml hv
  obtain ⟨rfl, hsz, hP, hK, hD0⟩ := hv
  have hx := B.exec
  have hb := B.bytes
  have hr := B.returns
  have hts := atoms_spec (ws := wc_TR_draw) B.pre
  have hws : ∀ w ∈ WS, w.before _ s = true := fun w h => hts w (List.mem_cons_of_mem _ h)
  have hown : s.vm.findClass RTR = some m.cls := findClass_of_methodNamed B.named
  have hlocks := B.notSynchronized
  subst hsz
  have hD := hD0.self (sz := s.heap.size)
  generalize hAe : va_A ((w_TR K q_t q_t_lows q_t_highs f_t_lows f_t_highs z_t_lows z_t_highs z_t_diagonals) ++ (w_WD K q_p0 q_p0_bits q_p0_closings f_p0_bits f_p0_closings z_p0_bits z_p0_closings z_p0_pairs)) s.heap.size = A at hD ⊢
  have hA : ∀ q : Nat, s.heap.size ≤ q → A q := fun q h => by rw [← hAe]; exact Or.inr h
  have hS : va_S A s.heap s.heap [] := va_S.rf
  have hl := lv_entry ([.ref q_t, .ref q_p0]) (n := 4) (Nat.le_of_ble_eq_true rfl)
  rw [lg_entry_eq]
  generalize (lg_sl ([.ref q_t, .ref q_p0]) ++ List.replicate (4 - (lg_sl ([.ref q_t, .ref q_p0])).length) Slot.unset).toArray = ls at hl ⊢
  have hl : lv_has ls 4 [(0, .ref q_t), (1, .ref q_p0)] := hl
  generalize ([.ref q_t, .ref q_p0] : List Value).toArray = args at hts hws ⊢
  generalize hQ : MQ below _ _ _ _ _ _ = Q
  have hj_51 : ∀ (ih : Nat → Nat → Nat → Nat → Nat → Option (Nat × Nat × Nat)) (IH : (∀ (l2 l3 y_t_lows y_t_highs y_t_diagonals : Nat) (H : Heap) (locs : List Loc) (ls : Array Slot), ih l2 l3 y_t_lows y_t_highs y_t_diagonals = some r → lv_has ls 4 [(0, .ref q_t), (1, .ref q_p0), (2, .int (nI l2)), (3, .int (nI l3))] → va_P (dC, dI) vwCl ((w_TR K q_t q_t_lows q_t_highs f_t_lows f_t_highs y_t_lows y_t_highs y_t_diagonals) ++ (w_WD K q_p0 q_p0_bits q_p0_closings f_p0_bits f_p0_closings z_p0_bits z_p0_closings z_p0_pairs)) H → va_D A ((w_TR K q_t q_t_lows q_t_highs f_t_lows f_t_highs y_t_lows y_t_highs y_t_diagonals) ++ (w_WD K q_p0 q_p0_bits q_p0_closings f_p0_bits f_p0_closings z_p0_bits z_p0_closings z_p0_pairs)) → va_S A s.heap H locs → W p l e (headSpec wc_TR_draw rm_TR_draw).room s m args below meth c H locs 0 0 Q (F0 m 9 ls []))), ∀ (l2 l3 y_t_lows y_t_highs y_t_diagonals : Nat) (H : Heap) (locs : List Loc) (ls : Array Slot), j_TR_draw_51 ih z_t_lows z_t_highs z_t_diagonals z_p0_bits z_p0_pairs l2 l3 y_t_lows y_t_highs y_t_diagonals = some r → lv_has ls 4 [(0, .ref q_t), (1, .ref q_p0), (2, .int (nI l2)), (3, .int (nI l3))] → va_P (dC, dI) vwCl ((w_TR K q_t q_t_lows q_t_highs f_t_lows f_t_highs y_t_lows y_t_highs y_t_diagonals) ++ (w_WD K q_p0 q_p0_bits q_p0_closings f_p0_bits f_p0_closings z_p0_bits z_p0_closings z_p0_pairs)) H → va_D A ((w_TR K q_t q_t_lows q_t_highs f_t_lows f_t_highs y_t_lows y_t_highs y_t_diagonals) ++ (w_WD K q_p0 q_p0_bits q_p0_closings f_p0_bits f_p0_closings z_p0_bits z_p0_closings z_p0_pairs)) → va_S A s.heap H locs → W p l e (headSpec wc_TR_draw rm_TR_draw).room s m args below meth c H locs 0 0 Q (F0 m 51 ls []) := by
    intro ih IH l2 l3 y_t_lows y_t_highs y_t_diagonals H locs ls hf hl hP hD hS
    unfold j_TR_draw_51 at hf
    refine lx_iinc (k := 3) (d := 1) hx hb dTR_draw_51 hl rfl (by decide +kernel) (by decide) rfl (fun ls hl => ?_)
    refine lv_goto (tgt := 9) hx hb dTR_draw_54 (by decide) ?_
    have hf := fz_s hf
    exact IH l2 (iA l3 1) y_t_lows y_t_highs y_t_diagonals _ _ _ hf (lv_sub hl [1, 2, 3, 0] rfl) hP hD hS
  have hb_9 : ∀ (ih : Nat → Nat → Nat → Nat → Nat → Option (Nat × Nat × Nat)) (IH : (∀ (l2 l3 y_t_lows y_t_highs y_t_diagonals : Nat) (H : Heap) (locs : List Loc) (ls : Array Slot), ih l2 l3 y_t_lows y_t_highs y_t_diagonals = some r → lv_has ls 4 [(0, .ref q_t), (1, .ref q_p0), (2, .int (nI l2)), (3, .int (nI l3))] → va_P (dC, dI) vwCl ((w_TR K q_t q_t_lows q_t_highs f_t_lows f_t_highs y_t_lows y_t_highs y_t_diagonals) ++ (w_WD K q_p0 q_p0_bits q_p0_closings f_p0_bits f_p0_closings z_p0_bits z_p0_closings z_p0_pairs)) H → va_D A ((w_TR K q_t q_t_lows q_t_highs f_t_lows f_t_highs y_t_lows y_t_highs y_t_diagonals) ++ (w_WD K q_p0 q_p0_bits q_p0_closings f_p0_bits f_p0_closings z_p0_bits z_p0_closings z_p0_pairs)) → va_S A s.heap H locs → W p l e (headSpec wc_TR_draw rm_TR_draw).room s m args below meth c H locs 0 0 Q (F0 m 9 ls []))), ∀ (l2 l3 y_t_lows y_t_highs y_t_diagonals : Nat) (H : Heap) (locs : List Loc) (ls : Array Slot), b_TR_draw_9 ih z_t_lows z_t_highs z_t_diagonals z_p0_bits z_p0_pairs l2 l3 y_t_lows y_t_highs y_t_diagonals = some r → lv_has ls 4 [(0, .ref q_t), (1, .ref q_p0), (2, .int (nI l2)), (3, .int (nI l3))] → va_P (dC, dI) vwCl ((w_TR K q_t q_t_lows q_t_highs f_t_lows f_t_highs y_t_lows y_t_highs y_t_diagonals) ++ (w_WD K q_p0 q_p0_bits q_p0_closings f_p0_bits f_p0_closings z_p0_bits z_p0_closings z_p0_pairs)) H → va_D A ((w_TR K q_t q_t_lows q_t_highs f_t_lows f_t_highs y_t_lows y_t_highs y_t_diagonals) ++ (w_WD K q_p0 q_p0_bits q_p0_closings f_p0_bits f_p0_closings z_p0_bits z_p0_closings z_p0_pairs)) → va_S A s.heap H locs → W p l e (headSpec wc_TR_draw rm_TR_draw).room s m args below meth c H locs 0 0 Q (F0 m 9 ls []) := by
    intro ih IH l2 l3 y_t_lows y_t_highs y_t_diagonals H locs ls hf hl hP hD hS
    unfold b_TR_draw_9 at hf
    refine lv_iload_n hx hb dTR_draw_9 rfl (lv_at hl 3 rfl) ?_
    refine lv_aload_n hx hb dTR_draw_10 rfl (lv_at hl 1 rfl) ?_
    obtain ⟨q1, hq, hf⟩ := bd_s hf
    refine ct_callr (ws' := (w_TR K q_t q_t_lows q_t_highs f_t_lows f_t_highs y_t_lows y_t_highs y_t_diagonals) ++ (w_WD K q_p0 q_p0_bits q_p0_closings f_p0_bits f_p0_closings z_p0_bits z_p0_closings z_p0_pairs)) (va_runV (As := []) (rest := [.int (nI l3)]) ⟨hx, hb, hml, hown, hws⟩ (ct_WD_length l dC dI K q_p0 q_p0_bits q_p0_closings f_p0_bits f_p0_closings z_p0_bits z_p0_closings z_p0_pairs q1 hq _) ⟨cb_WD_length hws rm_WD_length (hws _ km_TR_35) ⟨Nat.le_of_ble_eq_true rfl, Nat.le_of_ble_eq_true rfl⟩, hws _ ki_WD_length, hws _ ke_WD_WD_length_WD_length⟩ ⟨ct_blind _ _ _, va_recv (ci := 8) (q0 := 3) (q := (RWD, TWD, 3)) hK hP rfl rfl, ct_pre (cs := (w_WD K q_p0 q_p0_bits q_p0_closings f_p0_bits f_p0_closings z_p0_bits z_p0_closings z_p0_pairs)) hP hD hK [3, 4, 5] (by decide) rfl _⟩ rfl rfl hl.1 rfl (lv_room (Nat.le_of_ble_eq_true rfl)) dTR_draw_11 ⟨Nat.le_of_ble_eq_true rfl, Nat.le_of_ble_eq_true rfl⟩) hP hD hS hA [3, 4, 5] rfl rfl rfl rfl (fun H locs hP hD hS => ?_)
    refine lx_icmp_ge (tgt := 57) hx hb dTR_draw_14 (by decide) hf (fun hf => ?_) (fun hf => ?_)
    · obtain rfl := Option.some.inj hf
      rw [← hQ]
      exact W.vret hx hb hr (fun t ht hW => ⟨⟨rfl, by rw [ht]; exact hP⟩, hS.F ht⟩) hS.2.2 dTR_draw_57
    · refine lv_aload_n hx hb dTR_draw_17 rfl (lv_at hl 1 rfl) ?_
      refine lv_iload_n hx hb dTR_draw_18 rfl (lv_at hl 3 rfl) ?_
      obtain ⟨q2, hq, hf⟩ := bd_s hf
      refine ct_callr (ws' := (w_TR K q_t q_t_lows q_t_highs f_t_lows f_t_highs y_t_lows y_t_highs y_t_diagonals) ++ (w_WD K q_p0 q_p0_bits q_p0_closings f_p0_bits f_p0_closings z_p0_bits z_p0_closings z_p0_pairs)) (va_runV (As := [.int (nI l3)]) (rest := []) ⟨hx, hb, hml, hown, hws⟩ (ct_WD_isOne l dC dI K q_p0 q_p0_bits q_p0_closings f_p0_bits f_p0_closings l3 z_p0_bits z_p0_closings z_p0_pairs q2 hq _) ⟨cb_WD_isOne hws rm_WD_isOne (hws _ km_TR_38) ⟨Nat.le_of_ble_eq_true rfl, Nat.le_of_ble_eq_true rfl⟩, hws _ ki_WD_isOne, hws _ ke_WD_WD_isOne_WD_isOne⟩ ⟨ct_blind _ _ _, va_recv (ci := 8) (q0 := 3) (q := (RWD, TWD, 3)) hK hP rfl rfl, ct_pre (cs := (w_WD K q_p0 q_p0_bits q_p0_closings f_p0_bits f_p0_closings z_p0_bits z_p0_closings z_p0_pairs)) hP hD hK [3, 4, 5] (by decide) rfl _⟩ rfl rfl hl.1 rfl (lv_room (Nat.le_of_ble_eq_true rfl)) dTR_draw_19 ⟨Nat.le_of_ble_eq_true rfl, Nat.le_of_ble_eq_true rfl⟩) hP hD hS hA [3, 4, 5] rfl rfl rfl rfl (fun H locs hP hD hS => ?_)
      refine lx_if_ne (tgt := 31) hx hb dTR_draw_22 (by decide) hf (fun hf => ?_) (fun hf => ?_)
      · refine lv_iload_n hx hb dTR_draw_31 rfl (lv_at hl 3 rfl) ?_
        refine lx_if_le (tgt := 51) hx hb dTR_draw_32 (by decide) hf (fun hf => ?_) (fun hf => ?_)
        · exact hj_51 _ IH l2 l3 y_t_lows y_t_highs y_t_diagonals _ _ _ hf (lv_sub hl [0, 1, 2, 3] rfl) hP hD hS
        · refine lv_aload_n hx hb dTR_draw_35 rfl (lv_at hl 0 rfl) ?_
          refine lv_iload_n hx hb dTR_draw_36 rfl (lv_at hl 2 rfl) ?_
          refine lv_aload_n hx hb dTR_draw_37 rfl (lv_at hl 1 rfl) ?_
          refine lv_aload_n hx hb dTR_draw_38 rfl (lv_at hl 1 rfl) ?_
          refine lv_iload_n hx hb dTR_draw_39 rfl (lv_at hl 3 rfl) ?_
          obtain ⟨q3, hq, hf⟩ := bd_s hf
          refine ct_callr (ws' := (w_TR K q_t q_t_lows q_t_highs f_t_lows f_t_highs y_t_lows y_t_highs y_t_diagonals) ++ (w_WD K q_p0 q_p0_bits q_p0_closings f_p0_bits f_p0_closings z_p0_bits z_p0_closings z_p0_pairs)) (va_runV (As := [.int (nI l3)]) (rest := [.ref q_p0, .int (nI l2), .ref q_t]) ⟨hx, hb, hml, hown, hws⟩ (ct_WD_fall l dC dI K q_p0 q_p0_bits q_p0_closings f_p0_bits f_p0_closings l3 z_p0_bits z_p0_closings z_p0_pairs q3 hq _) ⟨cb_WD_fall hws rm_WD_fall (hws _ km_TR_42) ⟨Nat.le_of_ble_eq_true rfl, Nat.le_of_ble_eq_true rfl⟩, hws _ ki_WD_fall, hws _ ke_WD_WD_fall_WD_fall⟩ ⟨ct_blind _ _ _, va_recv (ci := 8) (q0 := 3) (q := (RWD, TWD, 3)) hK hP rfl rfl, ct_pre (cs := (w_WD K q_p0 q_p0_bits q_p0_closings f_p0_bits f_p0_closings z_p0_bits z_p0_closings z_p0_pairs)) hP hD hK [3, 4, 5] (by decide) rfl _⟩ rfl rfl hl.1 rfl (lv_room (Nat.le_of_ble_eq_true rfl)) dTR_draw_40 ⟨Nat.le_of_ble_eq_true rfl, Nat.le_of_ble_eq_true rfl⟩) hP hD hS hA [3, 4, 5] rfl rfl rfl rfl (fun H locs hP hD hS => ?_)
          obtain ⟨q4, hq, hf⟩ := bd_s hf
          refine ct_callr (ws' := (w_TR K q_t q_t_lows q_t_highs f_t_lows f_t_highs y_t_lows y_t_highs y_t_diagonals) ++ (w_WD K q_p0 q_p0_bits q_p0_closings f_p0_bits f_p0_closings z_p0_bits z_p0_closings z_p0_pairs)) (va_runV (As := [.int (nI q3)]) (rest := [.int (nI l2), .ref q_t]) ⟨hx, hb, hml, hown, hws⟩ (ct_WD_zerosBefore l dC dI K q_p0 q_p0_bits q_p0_closings f_p0_bits f_p0_closings q3 z_p0_bits z_p0_closings z_p0_pairs q4 hq _) ⟨cb_WD_zerosBefore hws rm_WD_zerosBefore (hws _ km_TR_46) ⟨Nat.le_of_ble_eq_true rfl, Nat.le_of_ble_eq_true rfl⟩, hws _ ki_WD_zerosBefore, hws _ ke_WD_WD_zerosBefore_WD_zerosBefore⟩ ⟨ct_blind _ _ _, va_recv (ci := 8) (q0 := 3) (q := (RWD, TWD, 3)) hK hP rfl rfl, ct_pre (cs := (w_WD K q_p0 q_p0_bits q_p0_closings f_p0_bits f_p0_closings z_p0_bits z_p0_closings z_p0_pairs)) hP hD hK [3, 4, 5] (by decide) rfl _⟩ rfl rfl hl.1 rfl (lv_room (Nat.le_of_ble_eq_true rfl)) dTR_draw_43 ⟨Nat.le_of_ble_eq_true rfl, Nat.le_of_ble_eq_true rfl⟩) hP hD hS hA [3, 4, 5] rfl rfl rfl rfl (fun H locs hP hD hS => ?_)
          refine lv_iconst (v := nI 1) hx hb dTR_draw_46 (by decide +kernel) ?_
          refine lx_iadd hx hb dTR_draw_47 ?_
          obtain ⟨q5, hq, hf⟩ := bd_s hf
          refine ct_callv (ws' := (w_TR K q_t q_t_lows q_t_highs f_t_lows f_t_highs q5.1 q5.2.1 q5.2.2) ++ (w_WD K q_p0 q_p0_bits q_p0_closings f_p0_bits f_p0_closings z_p0_bits z_p0_closings z_p0_pairs)) (va_runV (As := [.int (nI l2), .int (nI (iA q4 1))]) (rest := []) ⟨hx, hb, hml, hown, hws⟩ (ct_TR_insert l dC dI K q_t q_t_lows q_t_highs f_t_lows f_t_highs l2 (iA q4 1) y_t_lows y_t_highs y_t_diagonals q5 hq _) ⟨cb_TR_insert hws rm_TR_insert (hws _ km_TR_49) ⟨Nat.le_of_ble_eq_true rfl, Nat.le_of_ble_eq_true rfl⟩, hws _ ki_TR_insert, hws _ ke_TR_TR_insert_TR_insert⟩ ⟨ct_blind _ _ _, va_recv (ci := 3) (q0 := 0) (q := (RTR, TTR, 3)) hK hP rfl rfl, ct_pre (cs := (w_TR K q_t q_t_lows q_t_highs f_t_lows f_t_highs y_t_lows y_t_highs y_t_diagonals)) hP hD hK [0, 1, 2] (by decide) rfl _⟩ rfl rfl hl.1 rfl (lv_room (Nat.le_of_ble_eq_true rfl)) dTR_draw_48 ⟨Nat.le_of_ble_eq_true rfl, Nat.le_of_ble_eq_true rfl⟩) hP hD hS hA [0, 1, 2] rfl rfl rfl rfl (fun H locs hP hD hS => ?_)
          have hP : va_P (dC, dI) vwCl ((w_TR K q_t q_t_lows q_t_highs f_t_lows f_t_highs q5.1 q5.2.1 q5.2.2) ++ (w_WD K q_p0 q_p0_bits q_p0_closings f_p0_bits f_p0_closings z_p0_bits z_p0_closings z_p0_pairs)) H := hP
          have hD : va_D A ((w_TR K q_t q_t_lows q_t_highs f_t_lows f_t_highs q5.1 q5.2.1 q5.2.2) ++ (w_WD K q_p0 q_p0_bits q_p0_closings f_p0_bits f_p0_closings z_p0_bits z_p0_closings z_p0_pairs)) := hD
          have hf := fz_s hf
          have hf := fz_s hf
          have hf := fz_s hf
          exact hj_51 _ IH l2 l3 q5.1 q5.2.1 q5.2.2 _ _ _ hf (lv_sub hl [0, 1, 2, 3] rfl) hP hD hS
      · refine lx_iinc (k := 2) (d := 1) hx hb dTR_draw_25 hl rfl (by decide +kernel) (by decide) rfl (fun ls hl => ?_)
        refine lv_goto (tgt := 51) hx hb dTR_draw_28 (by decide) ?_
        have hf := fz_s hf
        exact hj_51 _ IH (iA l2 1) l3 y_t_lows y_t_highs y_t_diagonals _ _ _ hf (lv_sub hl [1, 2, 0, 3] rfl) hP hD hS
  have key : ∀ k : Nat, (∀ (l2 l3 y_t_lows y_t_highs y_t_diagonals : Nat) (H : Heap) (locs : List Loc) (ls : Array Slot), fr_TR_draw z_t_lows z_t_highs z_t_diagonals z_p0_bits z_p0_pairs k l2 l3 y_t_lows y_t_highs y_t_diagonals = some r → lv_has ls 4 [(0, .ref q_t), (1, .ref q_p0), (2, .int (nI l2)), (3, .int (nI l3))] → va_P (dC, dI) vwCl ((w_TR K q_t q_t_lows q_t_highs f_t_lows f_t_highs y_t_lows y_t_highs y_t_diagonals) ++ (w_WD K q_p0 q_p0_bits q_p0_closings f_p0_bits f_p0_closings z_p0_bits z_p0_closings z_p0_pairs)) H → va_D A ((w_TR K q_t q_t_lows q_t_highs f_t_lows f_t_highs y_t_lows y_t_highs y_t_diagonals) ++ (w_WD K q_p0 q_p0_bits q_p0_closings f_p0_bits f_p0_closings z_p0_bits z_p0_closings z_p0_pairs)) → va_S A s.heap H locs → W p l e (headSpec wc_TR_draw rm_TR_draw).room s m args below meth c H locs 0 0 Q (F0 m 9 ls [])) := by
    intro k
    induction k with
    | zero => exact fun l2 l3 y_t_lows y_t_highs y_t_diagonals H locs ls hf _ _ _ _ => no_s (α := Nat × Nat × Nat) (r := r) hf
    | succ k IH => exact fun l2 l3 y_t_lows y_t_highs y_t_diagonals H locs ls hf => hb_9 (fr_TR_draw z_t_lows z_t_highs z_t_diagonals z_p0_bits z_p0_pairs k) IH l2 l3 y_t_lows y_t_highs y_t_diagonals H locs ls ((frs_TR_draw_9 z_t_lows z_t_highs z_t_diagonals z_p0_bits z_p0_pairs k l2 l3 y_t_lows y_t_highs y_t_diagonals).symm.trans hf)
  have IH := key 1000000
  have hf : e_TR_draw (fr_TR_draw z_t_lows z_t_highs z_t_diagonals z_p0_bits z_p0_pairs 1000000) z_t_lows z_t_highs z_t_diagonals z_p0_bits z_p0_pairs = some r := hf
  unfold e_TR_draw at hf
  generalize fr_TR_draw z_t_lows z_t_highs z_t_diagonals z_p0_bits z_p0_pairs 1000000 = ih at hf IH
  refine lv_aload_n hx hb dTR_draw_0 rfl (lv_at hl 0 rfl) ?_
  refine lv_iconst (v := nI 0) hx hb dTR_draw_1 (by decide +kernel) ?_
  refine va_put (D := (dC, dI)) (ci := 3) (v := .int (nI 0)) (ty := .int) (C := RTR) (T := TTR) (N := 3) hx hb hws uwTR tyTR okTR nmTR hown hK hP hD hS 0 rfl rfl 2 (by decide) (hws _ kf_TR_18) (fun _ h9 => h9) rfl (by decide +kernel) rfl rfl (Nat.le_of_ble_eq_true rfl) dTR_draw_2 (fun H locs hP hD hS => ?_)
  have hP : va_P (dC, dI) vwCl ((w_TR K q_t q_t_lows q_t_highs f_t_lows f_t_highs z_t_lows z_t_highs 0) ++ (w_WD K q_p0 q_p0_bits q_p0_closings f_p0_bits f_p0_closings z_p0_bits z_p0_closings z_p0_pairs)) H := hP
  have hD : va_D A ((w_TR K q_t q_t_lows q_t_highs f_t_lows f_t_highs z_t_lows z_t_highs 0) ++ (w_WD K q_p0 q_p0_bits q_p0_closings f_p0_bits f_p0_closings z_p0_bits z_p0_closings z_p0_pairs)) := hD
  refine lv_iconst (v := nI 0) hx hb dTR_draw_5 (by decide +kernel) ?_
  refine lv_istore_n hx hb dTR_draw_6 rfl hl (by decide) rfl (fun ls hl => ?_)
  refine lv_iconst (v := nI 0) hx hb dTR_draw_7 (by decide +kernel) ?_
  refine lv_istore_n hx hb dTR_draw_8 rfl hl (by decide) rfl (fun ls hl => ?_)
  exact IH 0 0 z_t_lows z_t_highs 0 _ _ _ hf (lv_sub hl [2, 3, 1, 0] rfl) hP hD hS
noncomputable def b_TR_write_7 (ih : Nat → Nat → Nat → Nat → Nat → Option (Nat × Nat × Nat × Nat)) (z_t_lows : Nat) (z_t_highs : Nat) (z_t_diagonals : Nat) (z_p0_bits : Nat) (z_p0_pairs : Nat) (z_p1 : Nat) (l3 : Nat) (y_t_lows : Nat) (y_t_highs : Nat) (y_t_diagonals : Nat) (y_p1 : Nat) : Option (Nat × Nat × Nat × Nat) := (bif iLt l3 y_t_diagonals then (rd y_t_lows 9 l3 (fun v5 => (bif Nat.blt (iM 2 l3) 20 then (rd y_t_highs 9 l3 (fun v6 => (bif Nat.blt (iA (iM 2 l3) 1) 20 then (fz (iA l3 1) (fun u7 => fz (aw (aw y_p1 (iM 2 l3) v5) (iA (iM 2 l3) 1) v6) (fun u8 => ih u7 y_t_lows y_t_highs y_t_diagonals u8))) else none))) else none))) else some (y_t_lows, y_t_highs, y_t_diagonals, y_p1))
noncomputable def fr_TR_write (z_t_lows : Nat) (z_t_highs : Nat) (z_t_diagonals : Nat) (z_p0_bits : Nat) (z_p0_pairs : Nat) (z_p1 : Nat) (k : Nat) : Nat → Nat → Nat → Nat → Nat → Option (Nat × Nat × Nat × Nat) := Nat.rec (motive := fun _ => Nat → Nat → Nat → Nat → Nat → Option (Nat × Nat × Nat × Nat)) (fun _ _ _ _ _ => none) (fun _ ih a0 a1 a2 a3 a4 => b_TR_write_7 ih z_t_lows z_t_highs z_t_diagonals z_p0_bits z_p0_pairs z_p1 a0 a1 a2 a3 a4) k
theorem frs_TR_write_7 (z_t_lows : Nat) (z_t_highs : Nat) (z_t_diagonals : Nat) (z_p0_bits : Nat) (z_p0_pairs : Nat) (z_p1 : Nat) (k : Nat) (l3 : Nat) (y_t_lows : Nat) (y_t_highs : Nat) (y_t_diagonals : Nat) (y_p1 : Nat) : fr_TR_write z_t_lows z_t_highs z_t_diagonals z_p0_bits z_p0_pairs z_p1 (k + 1) l3 y_t_lows y_t_highs y_t_diagonals y_p1 = b_TR_write_7 (fr_TR_write z_t_lows z_t_highs z_t_diagonals z_p0_bits z_p0_pairs z_p1 k) z_t_lows z_t_highs z_t_diagonals z_p0_bits z_p0_pairs z_p1 l3 y_t_lows y_t_highs y_t_diagonals y_p1 := rfl
noncomputable def e_TR_write (ih : Nat → Nat → Nat → Nat → Nat → Option (Nat × Nat × Nat × Nat)) (z_t_lows : Nat) (z_t_highs : Nat) (z_t_diagonals : Nat) (z_p0_bits : Nat) (z_p0_pairs : Nat) (z_p1 : Nat) : Option (Nat × Nat × Nat × Nat) := (Option.bind (f_TR_draw z_t_lows z_t_highs z_t_diagonals z_p0_bits z_p0_pairs) (fun q1 => (fz q1.1 (fun u2 => fz q1.2.1 (fun u3 => fz q1.2.2 (fun u4 => ih 0 u2 u3 u4 z_p1))))))
noncomputable def f_TR_write (z_t_lows : Nat) (z_t_highs : Nat) (z_t_diagonals : Nat) (z_p0_bits : Nat) (z_p0_pairs : Nat) (z_p1 : Nat) : Option (Nat × Nat × Nat × Nat) := e_TR_write (fr_TR_write z_t_lows z_t_highs z_t_diagonals z_p0_bits z_p0_pairs z_p1 1000000) z_t_lows z_t_highs z_t_diagonals z_p0_bits z_p0_pairs z_p1
abbrev rm_TR_write : Room := { frames := 4, cells := 0, slots := 0, locals := 87 }
set_option maxHeartbeats 4000000 in
set_option maxRecDepth 100000 in
theorem ct_TR_write (l : Launch) (dC : Nat → ClassId) (dI : Nat → Nat → Nat) (K : Nat → ClassId) (q_t : Nat) (q_t_lows : Nat) (q_t_highs : Nat) (q_p0 : Nat) (q_p0_bits : Nat) (q_p0_closings : Nat) (q_p1 : Nat) (f_t_lows : Nat → Int32) (f_t_highs : Nat → Int32) (f_p0_bits : Nat → Int32) (f_p0_closings : Nat → Int32) (f_p1 : Nat → Int32) (z_t_lows : Nat) (z_t_highs : Nat) (z_t_diagonals : Nat) (z_p0_bits : Nat) (z_p0_closings : Nat) (z_p0_pairs : Nat) (z_p1 : Nat) (r : Nat × Nat × Nat × Nat) (hf : f_TR_write z_t_lows z_t_highs z_t_diagonals z_p0_bits z_p0_pairs z_p1 = some r) : Ct l (dC, dI) vwCl yTR_write wc_TR_write rm_TR_write (tyK K) [.ref q_t, .ref q_p0, .ref q_p1] ((w_TR K q_t q_t_lows q_t_highs f_t_lows f_t_highs z_t_lows z_t_highs z_t_diagonals) ++ (w_WD K q_p0 q_p0_bits q_p0_closings f_p0_bits f_p0_closings z_p0_bits z_p0_closings z_p0_pairs) ++ (wArr K 20 q_p1 f_p1 z_p1)) ((w_TR K q_t q_t_lows q_t_highs f_t_lows f_t_highs r.1 r.2.1 r.2.2.1) ++ (w_WD K q_p0 q_p0_bits q_p0_closings f_p0_bits f_p0_closings z_p0_bits z_p0_closings z_p0_pairs) ++ (wArr K 20 q_p1 f_p1 r.2.2.2)) none := by
  intro sz
  refine Met.ofW (cc := cTR_write) (maxL := 4) (ret := none) (by decide) rfl ?_
  intro p e s m args below meth c s₁ B hml hv
  obtain ⟨rfl, hsz, hP, hK, hD0⟩ := hv
  have hx := B.exec
  have hb := B.bytes
  have hr := B.returns
  have hts := atoms_spec (ws := wc_TR_write) B.pre
  have hws : ∀ w ∈ WS, w.before _ s = true := fun w h => hts w (List.mem_cons_of_mem _ h)
  have hown : s.vm.findClass RTR = some m.cls := findClass_of_methodNamed B.named
  have hlocks := B.notSynchronized
  subst hsz
  have hD := hD0.self (sz := s.heap.size)
  generalize hAe : va_A ((w_TR K q_t q_t_lows q_t_highs f_t_lows f_t_highs z_t_lows z_t_highs z_t_diagonals) ++ (w_WD K q_p0 q_p0_bits q_p0_closings f_p0_bits f_p0_closings z_p0_bits z_p0_closings z_p0_pairs) ++ (wArr K 20 q_p1 f_p1 z_p1)) s.heap.size = A at hD ⊢
  have hA : ∀ q : Nat, s.heap.size ≤ q → A q := fun q h => by rw [← hAe]; exact Or.inr h
  have hS : va_S A s.heap s.heap [] := va_S.rf
  have hl := lv_entry ([.ref q_t, .ref q_p0, .ref q_p1]) (n := 4) (Nat.le_of_ble_eq_true rfl)
  rw [lg_entry_eq]
  generalize (lg_sl ([.ref q_t, .ref q_p0, .ref q_p1]) ++ List.replicate (4 - (lg_sl ([.ref q_t, .ref q_p0, .ref q_p1])).length) Slot.unset).toArray = ls at hl ⊢
  have hl : lv_has ls 4 [(0, .ref q_t), (1, .ref q_p0), (2, .ref q_p1)] := hl
  generalize ([.ref q_t, .ref q_p0, .ref q_p1] : List Value).toArray = args at hts hws ⊢
  generalize hQ : MQ below _ _ _ _ _ _ = Q
  have hb_7 : ∀ (ih : Nat → Nat → Nat → Nat → Nat → Option (Nat × Nat × Nat × Nat)) (IH : (∀ (l3 y_t_lows y_t_highs y_t_diagonals y_p1 : Nat) (H : Heap) (locs : List Loc) (ls : Array Slot), ih l3 y_t_lows y_t_highs y_t_diagonals y_p1 = some r → lv_has ls 4 [(0, .ref q_t), (2, .ref q_p1), (3, .int (nI l3))] → va_P (dC, dI) vwCl ((w_TR K q_t q_t_lows q_t_highs f_t_lows f_t_highs y_t_lows y_t_highs y_t_diagonals) ++ (w_WD K q_p0 q_p0_bits q_p0_closings f_p0_bits f_p0_closings z_p0_bits z_p0_closings z_p0_pairs) ++ (wArr K 20 q_p1 f_p1 y_p1)) H → va_D A ((w_TR K q_t q_t_lows q_t_highs f_t_lows f_t_highs y_t_lows y_t_highs y_t_diagonals) ++ (w_WD K q_p0 q_p0_bits q_p0_closings f_p0_bits f_p0_closings z_p0_bits z_p0_closings z_p0_pairs) ++ (wArr K 20 q_p1 f_p1 y_p1)) → va_S A s.heap H locs → W p l e (headSpec wc_TR_write rm_TR_write).room s m args below meth c H locs 0 0 Q (F0 m 7 ls []))), ∀ (l3 y_t_lows y_t_highs y_t_diagonals y_p1 : Nat) (H : Heap) (locs : List Loc) (ls : Array Slot), b_TR_write_7 ih z_t_lows z_t_highs z_t_diagonals z_p0_bits z_p0_pairs z_p1 l3 y_t_lows y_t_highs y_t_diagonals y_p1 = some r → lv_has ls 4 [(0, .ref q_t), (2, .ref q_p1), (3, .int (nI l3))] → va_P (dC, dI) vwCl ((w_TR K q_t q_t_lows q_t_highs f_t_lows f_t_highs y_t_lows y_t_highs y_t_diagonals) ++ (w_WD K q_p0 q_p0_bits q_p0_closings f_p0_bits f_p0_closings z_p0_bits z_p0_closings z_p0_pairs) ++ (wArr K 20 q_p1 f_p1 y_p1)) H → va_D A ((w_TR K q_t q_t_lows q_t_highs f_t_lows f_t_highs y_t_lows y_t_highs y_t_diagonals) ++ (w_WD K q_p0 q_p0_bits q_p0_closings f_p0_bits f_p0_closings z_p0_bits z_p0_closings z_p0_pairs) ++ (wArr K 20 q_p1 f_p1 y_p1)) → va_S A s.heap H locs → W p l e (headSpec wc_TR_write rm_TR_write).room s m args below meth c H locs 0 0 Q (F0 m 7 ls []) := by
    intro ih IH l3 y_t_lows y_t_highs y_t_diagonals y_p1 H locs ls hf hl hP hD hS
    unfold b_TR_write_7 at hf
    refine lv_iload_n hx hb dTR_write_7 rfl (lv_at hl 2 rfl) ?_
    refine lv_aload_n hx hb dTR_write_8 rfl (lv_at hl 0 rfl) ?_
    refine va_get (D := (dC, dI)) (ci := 3) (v := .int (nI y_t_diagonals)) (C := RTR) (T := TTR) (N := 3) hx hb hws uwTR hown hK hP 0 rfl rfl 2 (by decide) (hws _ kf_TR_18) (fun _ h9 => h9) rfl dTR_write_9 ?_
    refine lx_icmp_ge (tgt := 45) hx hb dTR_write_12 (by decide) hf (fun hf => ?_) (fun hf => ?_)
    · obtain rfl := Option.some.inj hf
      rw [← hQ]
      exact W.vret hx hb hr (fun t ht hW => ⟨⟨rfl, by rw [ht]; exact hP⟩, hS.F ht⟩) hS.2.2 dTR_write_45
    · refine lv_aload_n hx hb dTR_write_15 rfl (lv_at hl 1 rfl) ?_
      refine lv_iconst (v := nI 2) hx hb dTR_write_16 (by decide +kernel) ?_
      refine lv_iload_n hx hb dTR_write_17 rfl (lv_at hl 2 rfl) ?_
      refine lx_imul hx hb dTR_write_18 ?_
      refine lv_aload_n hx hb dTR_write_19 rfl (lv_at hl 0 rfl) ?_
      refine va_get (D := (dC, dI)) (ci := 3) (v := .ref q_t_lows) (C := RTR) (T := TTR) (N := 3) hx hb hws uwTR hown hK hP 0 rfl rfl 0 (by decide) (hws _ kf_TR_9) (fun _ h9 => h9) rfl dTR_write_20 ?_
      refine lv_iload_n hx hb dTR_write_23 rfl (lv_at hl 2 rfl) ?_
      refine lx_iald hx hb hK hP 1 0 rfl rfl (by decide) dTR_write_24 hf (fun v5 _ hf => ?_)
      refine lx_iast hx hb hK hP hD hS 6 0 rfl rfl (by decide) dTR_write_25 hf (fun hf H locs hP hD hS => ?_)
      have hP : va_P (dC, dI) vwCl ((w_TR K q_t q_t_lows q_t_highs f_t_lows f_t_highs y_t_lows y_t_highs y_t_diagonals) ++ (w_WD K q_p0 q_p0_bits q_p0_closings f_p0_bits f_p0_closings z_p0_bits z_p0_closings z_p0_pairs) ++ (wArr K 20 q_p1 f_p1 (aw y_p1 (iM 2 l3) v5))) H := hP
      have hD : va_D A ((w_TR K q_t q_t_lows q_t_highs f_t_lows f_t_highs y_t_lows y_t_highs y_t_diagonals) ++ (w_WD K q_p0 q_p0_bits q_p0_closings f_p0_bits f_p0_closings z_p0_bits z_p0_closings z_p0_pairs) ++ (wArr K 20 q_p1 f_p1 (aw y_p1 (iM 2 l3) v5))) := hD
      refine lv_aload_n hx hb dTR_write_26 rfl (lv_at hl 1 rfl) ?_
      refine lv_iconst (v := nI 2) hx hb dTR_write_27 (by decide +kernel) ?_
      refine lv_iload_n hx hb dTR_write_28 rfl (lv_at hl 2 rfl) ?_
      refine lx_imul hx hb dTR_write_29 ?_
      refine lv_iconst (v := nI 1) hx hb dTR_write_30 (by decide +kernel) ?_
      refine lx_iadd hx hb dTR_write_31 ?_
      refine lv_aload_n hx hb dTR_write_32 rfl (lv_at hl 0 rfl) ?_
      refine va_get (D := (dC, dI)) (ci := 3) (v := .ref q_t_highs) (C := RTR) (T := TTR) (N := 3) hx hb hws uwTR hown hK hP 0 rfl rfl 1 (by decide) (hws _ kf_TR_15) (fun _ h9 => h9) rfl dTR_write_33 ?_
      refine lv_iload_n hx hb dTR_write_36 rfl (lv_at hl 2 rfl) ?_
      refine lx_iald hx hb hK hP 2 0 rfl rfl (by decide) dTR_write_37 hf (fun v6 _ hf => ?_)
      refine lx_iast hx hb hK hP hD hS 6 0 rfl rfl (by decide) dTR_write_38 hf (fun hf H locs hP hD hS => ?_)
      have hP : va_P (dC, dI) vwCl ((w_TR K q_t q_t_lows q_t_highs f_t_lows f_t_highs y_t_lows y_t_highs y_t_diagonals) ++ (w_WD K q_p0 q_p0_bits q_p0_closings f_p0_bits f_p0_closings z_p0_bits z_p0_closings z_p0_pairs) ++ (wArr K 20 q_p1 f_p1 (aw (aw y_p1 (iM 2 l3) v5) (iA (iM 2 l3) 1) v6))) H := hP
      have hD : va_D A ((w_TR K q_t q_t_lows q_t_highs f_t_lows f_t_highs y_t_lows y_t_highs y_t_diagonals) ++ (w_WD K q_p0 q_p0_bits q_p0_closings f_p0_bits f_p0_closings z_p0_bits z_p0_closings z_p0_pairs) ++ (wArr K 20 q_p1 f_p1 (aw (aw y_p1 (iM 2 l3) v5) (iA (iM 2 l3) 1) v6))) := hD
      refine lx_iinc (k := 2) (d := 1) hx hb dTR_write_39 hl rfl (by decide +kernel) (by decide) rfl (fun ls hl => ?_)
      refine lv_goto (tgt := 7) hx hb dTR_write_42 (by decide) ?_
      have hf := fz_s hf
      have hf := fz_s hf
      exact IH (iA l3 1) y_t_lows y_t_highs y_t_diagonals (aw (aw y_p1 (iM 2 l3) v5) (iA (iM 2 l3) 1) v6) _ _ _ hf (lv_sub hl [1, 2, 0] rfl) hP hD hS
  have key : ∀ k : Nat, (∀ (l3 y_t_lows y_t_highs y_t_diagonals y_p1 : Nat) (H : Heap) (locs : List Loc) (ls : Array Slot), fr_TR_write z_t_lows z_t_highs z_t_diagonals z_p0_bits z_p0_pairs z_p1 k l3 y_t_lows y_t_highs y_t_diagonals y_p1 = some r → lv_has ls 4 [(0, .ref q_t), (2, .ref q_p1), (3, .int (nI l3))] → va_P (dC, dI) vwCl ((w_TR K q_t q_t_lows q_t_highs f_t_lows f_t_highs y_t_lows y_t_highs y_t_diagonals) ++ (w_WD K q_p0 q_p0_bits q_p0_closings f_p0_bits f_p0_closings z_p0_bits z_p0_closings z_p0_pairs) ++ (wArr K 20 q_p1 f_p1 y_p1)) H → va_D A ((w_TR K q_t q_t_lows q_t_highs f_t_lows f_t_highs y_t_lows y_t_highs y_t_diagonals) ++ (w_WD K q_p0 q_p0_bits q_p0_closings f_p0_bits f_p0_closings z_p0_bits z_p0_closings z_p0_pairs) ++ (wArr K 20 q_p1 f_p1 y_p1)) → va_S A s.heap H locs → W p l e (headSpec wc_TR_write rm_TR_write).room s m args below meth c H locs 0 0 Q (F0 m 7 ls [])) := by
    intro k
    induction k with
    | zero => exact fun l3 y_t_lows y_t_highs y_t_diagonals y_p1 H locs ls hf _ _ _ _ => no_s (α := Nat × Nat × Nat × Nat) (r := r) hf
    | succ k IH => exact fun l3 y_t_lows y_t_highs y_t_diagonals y_p1 H locs ls hf => hb_7 (fr_TR_write z_t_lows z_t_highs z_t_diagonals z_p0_bits z_p0_pairs z_p1 k) IH l3 y_t_lows y_t_highs y_t_diagonals y_p1 H locs ls ((frs_TR_write_7 z_t_lows z_t_highs z_t_diagonals z_p0_bits z_p0_pairs z_p1 k l3 y_t_lows y_t_highs y_t_diagonals y_p1).symm.trans hf)
  have IH := key 1000000
  have hf : e_TR_write (fr_TR_write z_t_lows z_t_highs z_t_diagonals z_p0_bits z_p0_pairs z_p1 1000000) z_t_lows z_t_highs z_t_diagonals z_p0_bits z_p0_pairs z_p1 = some r := hf
  unfold e_TR_write at hf
  generalize fr_TR_write z_t_lows z_t_highs z_t_diagonals z_p0_bits z_p0_pairs z_p1 1000000 = ih at hf IH
  refine lv_aload_n hx hb dTR_write_0 rfl (lv_at hl 0 rfl) ?_
  refine lv_aload_n hx hb dTR_write_1 rfl (lv_at hl 1 rfl) ?_
  obtain ⟨q1, hq, hf⟩ := bd_s hf
  refine ct_callv (ws' := (w_TR K q_t q_t_lows q_t_highs f_t_lows f_t_highs q1.1 q1.2.1 q1.2.2) ++ (w_WD K q_p0 q_p0_bits q_p0_closings f_p0_bits f_p0_closings z_p0_bits z_p0_closings z_p0_pairs) ++ (wArr K 20 q_p1 f_p1 z_p1)) (va_runV (As := [.ref q_p0]) (rest := []) ⟨hx, hb, hml, hown, hws⟩ (ct_TR_draw l dC dI K q_t q_t_lows q_t_highs q_p0 q_p0_bits q_p0_closings f_t_lows f_t_highs f_p0_bits f_p0_closings z_t_lows z_t_highs z_t_diagonals z_p0_bits z_p0_closings z_p0_pairs q1 hq _) ⟨cb_TR_draw hws rm_TR_draw (hws _ km_TR_22) ⟨Nat.le_of_ble_eq_true rfl, Nat.le_of_ble_eq_true rfl⟩, hws _ ki_TR_draw, hws _ ke_TR_TR_draw_TR_draw⟩ ⟨ct_blind _ _ _, va_recv (ci := 3) (q0 := 0) (q := (RTR, TTR, 3)) hK hP rfl rfl, ct_pre (cs := ((w_TR K q_t q_t_lows q_t_highs f_t_lows f_t_highs z_t_lows z_t_highs z_t_diagonals) ++ (w_WD K q_p0 q_p0_bits q_p0_closings f_p0_bits f_p0_closings z_p0_bits z_p0_closings z_p0_pairs))) hP hD hK [0, 1, 2, 3, 4, 5] (by decide) rfl _⟩ rfl rfl hl.1 rfl (lv_room (Nat.le_of_ble_eq_true rfl)) dTR_write_2 ⟨Nat.le_of_ble_eq_true rfl, Nat.le_of_ble_eq_true rfl⟩) hP hD hS hA [0, 1, 2, 3, 4, 5] rfl rfl rfl rfl (fun H locs hP hD hS => ?_)
  have hP : va_P (dC, dI) vwCl ((w_TR K q_t q_t_lows q_t_highs f_t_lows f_t_highs q1.1 q1.2.1 q1.2.2) ++ (w_WD K q_p0 q_p0_bits q_p0_closings f_p0_bits f_p0_closings z_p0_bits z_p0_closings z_p0_pairs) ++ (wArr K 20 q_p1 f_p1 z_p1)) H := hP
  have hD : va_D A ((w_TR K q_t q_t_lows q_t_highs f_t_lows f_t_highs q1.1 q1.2.1 q1.2.2) ++ (w_WD K q_p0 q_p0_bits q_p0_closings f_p0_bits f_p0_closings z_p0_bits z_p0_closings z_p0_pairs) ++ (wArr K 20 q_p1 f_p1 z_p1)) := hD
  refine lv_iconst (v := nI 0) hx hb dTR_write_5 (by decide +kernel) ?_
  refine lv_istore_n hx hb dTR_write_6 rfl hl (by decide) rfl (fun ls hl => ?_)
  have hf := fz_s hf
  have hf := fz_s hf
  have hf := fz_s hf
  exact IH 0 q1.1 q1.2.1 q1.2.2 z_p1 _ _ _ hf (lv_sub hl [1, 3, 0] rfl) hP hD hS
noncomputable def j_TR_tell_38 (ih : Nat → Nat → Nat → Nat → Nat → Option (Nat)) (z_t_lows : Nat) (z_t_diagonals : Nat) (z_p0_closings : Nat) (z_p0_pairs : Nat) (l2 : Nat) (l3 : Nat) (l4 : Nat) (y_p0_closings : Nat) : Option (Nat) := (fz (iA l4 1) (fun u6 => ih 1 l2 l3 u6 y_p0_closings))
noncomputable def b_TR_tell_2 (ih : Nat → Nat → Nat → Nat → Nat → Option (Nat)) (z_t_lows : Nat) (z_t_diagonals : Nat) (z_p0_closings : Nat) (z_p0_pairs : Nat) (l2 : Nat) (y_p0_closings : Nat) : Option (Nat) := (Option.bind (f_WD_pairs z_p0_pairs) (fun q1 => (bif iLt q1 l2 then some y_p0_closings else (ih 1 l2 1 0 y_p0_closings))))
noncomputable def b_TR_tell_15 (ih : Nat → Nat → Nat → Nat → Nat → Option (Nat)) (z_t_lows : Nat) (z_t_diagonals : Nat) (z_p0_closings : Nat) (z_p0_pairs : Nat) (l2 : Nat) (l3 : Nat) (l4 : Nat) (y_p0_closings : Nat) : Option (Nat) := (bif iLt l4 z_t_diagonals then (rd z_t_lows 9 l4 (fun v4 => (bif iLt v4 l2 then (fz (iA l3 1) (fun u5 => j_TR_tell_38 ih z_t_lows z_t_diagonals z_p0_closings z_p0_pairs l2 u5 l4 y_p0_closings)) else (j_TR_tell_38 ih z_t_lows z_t_diagonals z_p0_closings z_p0_pairs l2 l3 l4 y_p0_closings)))) else (Option.bind (f_WD_closeAfter l3 y_p0_closings z_p0_pairs) (fun q2 => (fz (iA l2 1) (fun u3 => ih 0 u3 q2 0 0)))))
noncomputable def fr_TR_tell (z_t_lows : Nat) (z_t_diagonals : Nat) (z_p0_closings : Nat) (z_p0_pairs : Nat) (k : Nat) : Nat → Nat → Nat → Nat → Nat → Option (Nat) := Nat.rec (motive := fun _ => Nat → Nat → Nat → Nat → Nat → Option (Nat)) (fun _ _ _ _ _ => none) (fun _ ih hh a0 a1 a2 a3 => (Nat.rec (motive := fun _ => Option (Nat)) (b_TR_tell_2 ih z_t_lows z_t_diagonals z_p0_closings z_p0_pairs a0 a1) (fun h0 _ => (Nat.rec (motive := fun _ => Option (Nat)) (b_TR_tell_15 ih z_t_lows z_t_diagonals z_p0_closings z_p0_pairs a0 a1 a2 a3) (fun h1 _ => none) h0)) hh)) k
theorem frs_TR_tell_2 (z_t_lows : Nat) (z_t_diagonals : Nat) (z_p0_closings : Nat) (z_p0_pairs : Nat) (k : Nat) (l2 : Nat) (y_p0_closings : Nat) : fr_TR_tell z_t_lows z_t_diagonals z_p0_closings z_p0_pairs (k + 1) 0 l2 y_p0_closings 0 0 = b_TR_tell_2 (fr_TR_tell z_t_lows z_t_diagonals z_p0_closings z_p0_pairs k) z_t_lows z_t_diagonals z_p0_closings z_p0_pairs l2 y_p0_closings := rfl
theorem frs_TR_tell_15 (z_t_lows : Nat) (z_t_diagonals : Nat) (z_p0_closings : Nat) (z_p0_pairs : Nat) (k : Nat) (l2 : Nat) (l3 : Nat) (l4 : Nat) (y_p0_closings : Nat) : fr_TR_tell z_t_lows z_t_diagonals z_p0_closings z_p0_pairs (k + 1) 1 l2 l3 l4 y_p0_closings = b_TR_tell_15 (fr_TR_tell z_t_lows z_t_diagonals z_p0_closings z_p0_pairs k) z_t_lows z_t_diagonals z_p0_closings z_p0_pairs l2 l3 l4 y_p0_closings := rfl
noncomputable def e_TR_tell (ih : Nat → Nat → Nat → Nat → Nat → Option (Nat)) (z_t_lows : Nat) (z_t_diagonals : Nat) (z_p0_closings : Nat) (z_p0_pairs : Nat) : Option (Nat) := (ih 0 1 z_p0_closings 0 0)
noncomputable def f_TR_tell (z_t_lows : Nat) (z_t_diagonals : Nat) (z_p0_closings : Nat) (z_p0_pairs : Nat) : Option (Nat) := e_TR_tell (fr_TR_tell z_t_lows z_t_diagonals z_p0_closings z_p0_pairs 1000000) z_t_lows z_t_diagonals z_p0_closings z_p0_pairs
abbrev rm_TR_tell : Room := { frames := 1, cells := 0, slots := 0, locals := 21 }
set_option maxHeartbeats 4000000 in
set_option maxRecDepth 100000 in
theorem ct_TR_tell (l : Launch) (dC : Nat → ClassId) (dI : Nat → Nat → Nat) (K : Nat → ClassId) (q_t : Nat) (q_t_lows : Nat) (q_t_highs : Nat) (q_p0 : Nat) (q_p0_bits : Nat) (q_p0_closings : Nat) (f_t_lows : Nat → Int32) (f_t_highs : Nat → Int32) (f_p0_bits : Nat → Int32) (f_p0_closings : Nat → Int32) (z_t_lows : Nat) (z_t_highs : Nat) (z_t_diagonals : Nat) (z_p0_bits : Nat) (z_p0_closings : Nat) (z_p0_pairs : Nat) (r : Nat) (hf : f_TR_tell z_t_lows z_t_diagonals z_p0_closings z_p0_pairs = some r) : Ct l (dC, dI) vwCl yTR_tell wc_TR_tell rm_TR_tell (tyK K) [.ref q_t, .ref q_p0] ((w_TR K q_t q_t_lows q_t_highs f_t_lows f_t_highs z_t_lows z_t_highs z_t_diagonals) ++ (w_WD K q_p0 q_p0_bits q_p0_closings f_p0_bits f_p0_closings z_p0_bits z_p0_closings z_p0_pairs)) ((w_TR K q_t q_t_lows q_t_highs f_t_lows f_t_highs z_t_lows z_t_highs z_t_diagonals) ++ (w_WD K q_p0 q_p0_bits q_p0_closings f_p0_bits f_p0_closings z_p0_bits r z_p0_pairs)) none := by
  intro sz
  refine Met.ofW (cc := cTR_tell) (maxL := 5) (ret := none) (by decide) rfl ?_
  intro p e s m args below meth c s₁ B hml hv
  obtain ⟨rfl, hsz, hP, hK, hD0⟩ := hv
  have hx := B.exec
  have hb := B.bytes
  have hr := B.returns
  have hts := atoms_spec (ws := wc_TR_tell) B.pre
  have hws : ∀ w ∈ WS, w.before _ s = true := fun w h => hts w (List.mem_cons_of_mem _ h)
  have hown : s.vm.findClass RTR = some m.cls := findClass_of_methodNamed B.named
  have hlocks := B.notSynchronized
  subst hsz
  have hD := hD0.self (sz := s.heap.size)
  generalize hAe : va_A ((w_TR K q_t q_t_lows q_t_highs f_t_lows f_t_highs z_t_lows z_t_highs z_t_diagonals) ++ (w_WD K q_p0 q_p0_bits q_p0_closings f_p0_bits f_p0_closings z_p0_bits z_p0_closings z_p0_pairs)) s.heap.size = A at hD ⊢
  have hA : ∀ q : Nat, s.heap.size ≤ q → A q := fun q h => by rw [← hAe]; exact Or.inr h
  have hS : va_S A s.heap s.heap [] := va_S.rf
  have hl := lv_entry ([.ref q_t, .ref q_p0]) (n := 5) (Nat.le_of_ble_eq_true rfl)
  rw [lg_entry_eq]
  generalize (lg_sl ([.ref q_t, .ref q_p0]) ++ List.replicate (5 - (lg_sl ([.ref q_t, .ref q_p0])).length) Slot.unset).toArray = ls at hl ⊢
  have hl : lv_has ls 5 [(0, .ref q_t), (1, .ref q_p0)] := hl
  generalize ([.ref q_t, .ref q_p0] : List Value).toArray = args at hts hws ⊢
  generalize hQ : MQ below _ _ _ _ _ _ = Q
  have hj_38 : ∀ (ih : Nat → Nat → Nat → Nat → Nat → Option (Nat)) (IH : (∀ (l2 y_p0_closings : Nat) (H : Heap) (locs : List Loc) (ls : Array Slot), ih 0 l2 y_p0_closings 0 0 = some r → lv_has ls 5 [(0, .ref q_t), (1, .ref q_p0), (2, .int (nI l2))] → va_P (dC, dI) vwCl ((w_TR K q_t q_t_lows q_t_highs f_t_lows f_t_highs z_t_lows z_t_highs z_t_diagonals) ++ (w_WD K q_p0 q_p0_bits q_p0_closings f_p0_bits f_p0_closings z_p0_bits y_p0_closings z_p0_pairs)) H → va_D A ((w_TR K q_t q_t_lows q_t_highs f_t_lows f_t_highs z_t_lows z_t_highs z_t_diagonals) ++ (w_WD K q_p0 q_p0_bits q_p0_closings f_p0_bits f_p0_closings z_p0_bits y_p0_closings z_p0_pairs)) → va_S A s.heap H locs → W p l e (headSpec wc_TR_tell rm_TR_tell).room s m args below meth c H locs 0 0 Q (F0 m 2 ls [])) ∧ (∀ (l2 l3 l4 y_p0_closings : Nat) (H : Heap) (locs : List Loc) (ls : Array Slot), ih 1 l2 l3 l4 y_p0_closings = some r → lv_has ls 5 [(0, .ref q_t), (1, .ref q_p0), (2, .int (nI l2)), (3, .int (nI l3)), (4, .int (nI l4))] → va_P (dC, dI) vwCl ((w_TR K q_t q_t_lows q_t_highs f_t_lows f_t_highs z_t_lows z_t_highs z_t_diagonals) ++ (w_WD K q_p0 q_p0_bits q_p0_closings f_p0_bits f_p0_closings z_p0_bits y_p0_closings z_p0_pairs)) H → va_D A ((w_TR K q_t q_t_lows q_t_highs f_t_lows f_t_highs z_t_lows z_t_highs z_t_diagonals) ++ (w_WD K q_p0 q_p0_bits q_p0_closings f_p0_bits f_p0_closings z_p0_bits y_p0_closings z_p0_pairs)) → va_S A s.heap H locs → W p l e (headSpec wc_TR_tell rm_TR_tell).room s m args below meth c H locs 0 0 Q (F0 m 15 ls []))), ∀ (l2 l3 l4 y_p0_closings : Nat) (H : Heap) (locs : List Loc) (ls : Array Slot), j_TR_tell_38 ih z_t_lows z_t_diagonals z_p0_closings z_p0_pairs l2 l3 l4 y_p0_closings = some r → lv_has ls 5 [(0, .ref q_t), (1, .ref q_p0), (2, .int (nI l2)), (3, .int (nI l3)), (4, .int (nI l4))] → va_P (dC, dI) vwCl ((w_TR K q_t q_t_lows q_t_highs f_t_lows f_t_highs z_t_lows z_t_highs z_t_diagonals) ++ (w_WD K q_p0 q_p0_bits q_p0_closings f_p0_bits f_p0_closings z_p0_bits y_p0_closings z_p0_pairs)) H → va_D A ((w_TR K q_t q_t_lows q_t_highs f_t_lows f_t_highs z_t_lows z_t_highs z_t_diagonals) ++ (w_WD K q_p0 q_p0_bits q_p0_closings f_p0_bits f_p0_closings z_p0_bits y_p0_closings z_p0_pairs)) → va_S A s.heap H locs → W p l e (headSpec wc_TR_tell rm_TR_tell).room s m args below meth c H locs 0 0 Q (F0 m 38 ls []) := by
    intro ih IH l2 l3 l4 y_p0_closings H locs ls hf hl hP hD hS
    unfold j_TR_tell_38 at hf
    refine lx_iinc (k := 4) (d := 1) hx hb dTR_tell_38 hl rfl (by decide +kernel) (by decide) rfl (fun ls hl => ?_)
    refine lv_goto (tgt := 15) hx hb dTR_tell_41 (by decide) ?_
    have hf := fz_s hf
    exact IH.2 l2 l3 (iA l4 1) y_p0_closings _ _ _ hf (lv_sub hl [1, 2, 3, 4, 0] rfl) hP hD hS
  have hb_2 : ∀ (ih : Nat → Nat → Nat → Nat → Nat → Option (Nat)) (IH : (∀ (l2 y_p0_closings : Nat) (H : Heap) (locs : List Loc) (ls : Array Slot), ih 0 l2 y_p0_closings 0 0 = some r → lv_has ls 5 [(0, .ref q_t), (1, .ref q_p0), (2, .int (nI l2))] → va_P (dC, dI) vwCl ((w_TR K q_t q_t_lows q_t_highs f_t_lows f_t_highs z_t_lows z_t_highs z_t_diagonals) ++ (w_WD K q_p0 q_p0_bits q_p0_closings f_p0_bits f_p0_closings z_p0_bits y_p0_closings z_p0_pairs)) H → va_D A ((w_TR K q_t q_t_lows q_t_highs f_t_lows f_t_highs z_t_lows z_t_highs z_t_diagonals) ++ (w_WD K q_p0 q_p0_bits q_p0_closings f_p0_bits f_p0_closings z_p0_bits y_p0_closings z_p0_pairs)) → va_S A s.heap H locs → W p l e (headSpec wc_TR_tell rm_TR_tell).room s m args below meth c H locs 0 0 Q (F0 m 2 ls [])) ∧ (∀ (l2 l3 l4 y_p0_closings : Nat) (H : Heap) (locs : List Loc) (ls : Array Slot), ih 1 l2 l3 l4 y_p0_closings = some r → lv_has ls 5 [(0, .ref q_t), (1, .ref q_p0), (2, .int (nI l2)), (3, .int (nI l3)), (4, .int (nI l4))] → va_P (dC, dI) vwCl ((w_TR K q_t q_t_lows q_t_highs f_t_lows f_t_highs z_t_lows z_t_highs z_t_diagonals) ++ (w_WD K q_p0 q_p0_bits q_p0_closings f_p0_bits f_p0_closings z_p0_bits y_p0_closings z_p0_pairs)) H → va_D A ((w_TR K q_t q_t_lows q_t_highs f_t_lows f_t_highs z_t_lows z_t_highs z_t_diagonals) ++ (w_WD K q_p0 q_p0_bits q_p0_closings f_p0_bits f_p0_closings z_p0_bits y_p0_closings z_p0_pairs)) → va_S A s.heap H locs → W p l e (headSpec wc_TR_tell rm_TR_tell).room s m args below meth c H locs 0 0 Q (F0 m 15 ls []))), ∀ (l2 y_p0_closings : Nat) (H : Heap) (locs : List Loc) (ls : Array Slot), b_TR_tell_2 ih z_t_lows z_t_diagonals z_p0_closings z_p0_pairs l2 y_p0_closings = some r → lv_has ls 5 [(0, .ref q_t), (1, .ref q_p0), (2, .int (nI l2))] → va_P (dC, dI) vwCl ((w_TR K q_t q_t_lows q_t_highs f_t_lows f_t_highs z_t_lows z_t_highs z_t_diagonals) ++ (w_WD K q_p0 q_p0_bits q_p0_closings f_p0_bits f_p0_closings z_p0_bits y_p0_closings z_p0_pairs)) H → va_D A ((w_TR K q_t q_t_lows q_t_highs f_t_lows f_t_highs z_t_lows z_t_highs z_t_diagonals) ++ (w_WD K q_p0 q_p0_bits q_p0_closings f_p0_bits f_p0_closings z_p0_bits y_p0_closings z_p0_pairs)) → va_S A s.heap H locs → W p l e (headSpec wc_TR_tell rm_TR_tell).room s m args below meth c H locs 0 0 Q (F0 m 2 ls []) := by
    intro ih IH l2 y_p0_closings H locs ls hf hl hP hD hS
    unfold b_TR_tell_2 at hf
    refine lv_iload_n hx hb dTR_tell_2 rfl (lv_at hl 2 rfl) ?_
    refine lv_aload_n hx hb dTR_tell_3 rfl (lv_at hl 1 rfl) ?_
    obtain ⟨q1, hq, hf⟩ := bd_s hf
    refine ct_callr (ws' := (w_TR K q_t q_t_lows q_t_highs f_t_lows f_t_highs z_t_lows z_t_highs z_t_diagonals) ++ (w_WD K q_p0 q_p0_bits q_p0_closings f_p0_bits f_p0_closings z_p0_bits y_p0_closings z_p0_pairs)) (va_runV (As := []) (rest := [.int (nI l2)]) ⟨hx, hb, hml, hown, hws⟩ (ct_WD_pairs l dC dI K q_p0 q_p0_bits q_p0_closings f_p0_bits f_p0_closings z_p0_bits y_p0_closings z_p0_pairs q1 hq _) ⟨cb_WD_pairs hws rm_WD_pairs (hws _ km_TR_26) ⟨Nat.le_of_ble_eq_true rfl, Nat.le_of_ble_eq_true rfl⟩, hws _ ki_WD_pairs, hws _ ke_WD_WD_pairs_WD_pairs⟩ ⟨ct_blind _ _ _, va_recv (ci := 8) (q0 := 3) (q := (RWD, TWD, 3)) hK hP rfl rfl, ct_pre (cs := (w_WD K q_p0 q_p0_bits q_p0_closings f_p0_bits f_p0_closings z_p0_bits y_p0_closings z_p0_pairs)) hP hD hK [3, 4, 5] (by decide) rfl _⟩ rfl rfl hl.1 rfl (lv_room (Nat.le_of_ble_eq_true rfl)) dTR_tell_4 ⟨Nat.le_of_ble_eq_true rfl, Nat.le_of_ble_eq_true rfl⟩) hP hD hS hA [3, 4, 5] rfl rfl rfl rfl (fun H locs hP hD hS => ?_)
    refine lx_icmp_gt (tgt := 55) hx hb dTR_tell_7 (by decide) hf (fun hf => ?_) (fun hf => ?_)
    · obtain rfl := Option.some.inj hf
      rw [← hQ]
      exact W.vret hx hb hr (fun t ht hW => ⟨⟨rfl, by rw [ht]; exact hP⟩, hS.F ht⟩) hS.2.2 dTR_tell_55
    · refine lv_iconst (v := nI 1) hx hb dTR_tell_10 (by decide +kernel) ?_
      refine lv_istore_n hx hb dTR_tell_11 rfl hl (by decide) rfl (fun ls hl => ?_)
      refine lv_iconst (v := nI 0) hx hb dTR_tell_12 (by decide +kernel) ?_
      refine lv_istore hx hb dTR_tell_13 hl (by decide) rfl (fun ls hl => ?_)
      exact IH.2 l2 1 0 y_p0_closings _ _ _ hf (lv_sub hl [2, 3, 4, 1, 0] rfl) hP hD hS
  have hb_15 : ∀ (ih : Nat → Nat → Nat → Nat → Nat → Option (Nat)) (IH : (∀ (l2 y_p0_closings : Nat) (H : Heap) (locs : List Loc) (ls : Array Slot), ih 0 l2 y_p0_closings 0 0 = some r → lv_has ls 5 [(0, .ref q_t), (1, .ref q_p0), (2, .int (nI l2))] → va_P (dC, dI) vwCl ((w_TR K q_t q_t_lows q_t_highs f_t_lows f_t_highs z_t_lows z_t_highs z_t_diagonals) ++ (w_WD K q_p0 q_p0_bits q_p0_closings f_p0_bits f_p0_closings z_p0_bits y_p0_closings z_p0_pairs)) H → va_D A ((w_TR K q_t q_t_lows q_t_highs f_t_lows f_t_highs z_t_lows z_t_highs z_t_diagonals) ++ (w_WD K q_p0 q_p0_bits q_p0_closings f_p0_bits f_p0_closings z_p0_bits y_p0_closings z_p0_pairs)) → va_S A s.heap H locs → W p l e (headSpec wc_TR_tell rm_TR_tell).room s m args below meth c H locs 0 0 Q (F0 m 2 ls [])) ∧ (∀ (l2 l3 l4 y_p0_closings : Nat) (H : Heap) (locs : List Loc) (ls : Array Slot), ih 1 l2 l3 l4 y_p0_closings = some r → lv_has ls 5 [(0, .ref q_t), (1, .ref q_p0), (2, .int (nI l2)), (3, .int (nI l3)), (4, .int (nI l4))] → va_P (dC, dI) vwCl ((w_TR K q_t q_t_lows q_t_highs f_t_lows f_t_highs z_t_lows z_t_highs z_t_diagonals) ++ (w_WD K q_p0 q_p0_bits q_p0_closings f_p0_bits f_p0_closings z_p0_bits y_p0_closings z_p0_pairs)) H → va_D A ((w_TR K q_t q_t_lows q_t_highs f_t_lows f_t_highs z_t_lows z_t_highs z_t_diagonals) ++ (w_WD K q_p0 q_p0_bits q_p0_closings f_p0_bits f_p0_closings z_p0_bits y_p0_closings z_p0_pairs)) → va_S A s.heap H locs → W p l e (headSpec wc_TR_tell rm_TR_tell).room s m args below meth c H locs 0 0 Q (F0 m 15 ls []))), ∀ (l2 l3 l4 y_p0_closings : Nat) (H : Heap) (locs : List Loc) (ls : Array Slot), b_TR_tell_15 ih z_t_lows z_t_diagonals z_p0_closings z_p0_pairs l2 l3 l4 y_p0_closings = some r → lv_has ls 5 [(0, .ref q_t), (1, .ref q_p0), (2, .int (nI l2)), (3, .int (nI l3)), (4, .int (nI l4))] → va_P (dC, dI) vwCl ((w_TR K q_t q_t_lows q_t_highs f_t_lows f_t_highs z_t_lows z_t_highs z_t_diagonals) ++ (w_WD K q_p0 q_p0_bits q_p0_closings f_p0_bits f_p0_closings z_p0_bits y_p0_closings z_p0_pairs)) H → va_D A ((w_TR K q_t q_t_lows q_t_highs f_t_lows f_t_highs z_t_lows z_t_highs z_t_diagonals) ++ (w_WD K q_p0 q_p0_bits q_p0_closings f_p0_bits f_p0_closings z_p0_bits y_p0_closings z_p0_pairs)) → va_S A s.heap H locs → W p l e (headSpec wc_TR_tell rm_TR_tell).room s m args below meth c H locs 0 0 Q (F0 m 15 ls []) := by
    intro ih IH l2 l3 l4 y_p0_closings H locs ls hf hl hP hD hS
    unfold b_TR_tell_15 at hf
    refine lv_iload hx hb dTR_tell_15 (lv_at hl 4 rfl) ?_
    refine lv_aload_n hx hb dTR_tell_17 rfl (lv_at hl 0 rfl) ?_
    refine va_get (D := (dC, dI)) (ci := 3) (v := .int (nI z_t_diagonals)) (C := RTR) (T := TTR) (N := 3) hx hb hws uwTR hown hK hP 0 rfl rfl 2 (by decide) (hws _ kf_TR_18) (fun _ h9 => h9) rfl dTR_tell_18 ?_
    refine lx_icmp_ge (tgt := 44) hx hb dTR_tell_21 (by decide) hf (fun hf => ?_) (fun hf => ?_)
    · refine lv_aload_n hx hb dTR_tell_44 rfl (lv_at hl 1 rfl) ?_
      refine lv_iload_n hx hb dTR_tell_45 rfl (lv_at hl 3 rfl) ?_
      obtain ⟨q2, hq, hf⟩ := bd_s hf
      refine ct_callv (ws' := (w_TR K q_t q_t_lows q_t_highs f_t_lows f_t_highs z_t_lows z_t_highs z_t_diagonals) ++ (w_WD K q_p0 q_p0_bits q_p0_closings f_p0_bits f_p0_closings z_p0_bits q2 z_p0_pairs)) (va_runV (As := [.int (nI l3)]) (rest := []) ⟨hx, hb, hml, hown, hws⟩ (ct_WD_closeAfter l dC dI K q_p0 q_p0_bits q_p0_closings f_p0_bits f_p0_closings l3 z_p0_bits y_p0_closings z_p0_pairs q2 hq _) ⟨cb_WD_closeAfter hws rm_WD_closeAfter (hws _ km_TR_57) ⟨Nat.le_of_ble_eq_true rfl, Nat.le_of_ble_eq_true rfl⟩, hws _ ki_WD_closeAfter, hws _ ke_WD_WD_closeAfter_WD_closeAfter⟩ ⟨ct_blind _ _ _, va_recv (ci := 8) (q0 := 3) (q := (RWD, TWD, 3)) hK hP rfl rfl, ct_pre (cs := (w_WD K q_p0 q_p0_bits q_p0_closings f_p0_bits f_p0_closings z_p0_bits y_p0_closings z_p0_pairs)) hP hD hK [3, 4, 5] (by decide) rfl _⟩ rfl rfl hl.1 rfl (lv_room (Nat.le_of_ble_eq_true rfl)) dTR_tell_46 ⟨Nat.le_of_ble_eq_true rfl, Nat.le_of_ble_eq_true rfl⟩) hP hD hS hA [3, 4, 5] rfl rfl rfl rfl (fun H locs hP hD hS => ?_)
      have hP : va_P (dC, dI) vwCl ((w_TR K q_t q_t_lows q_t_highs f_t_lows f_t_highs z_t_lows z_t_highs z_t_diagonals) ++ (w_WD K q_p0 q_p0_bits q_p0_closings f_p0_bits f_p0_closings z_p0_bits q2 z_p0_pairs)) H := hP
      have hD : va_D A ((w_TR K q_t q_t_lows q_t_highs f_t_lows f_t_highs z_t_lows z_t_highs z_t_diagonals) ++ (w_WD K q_p0 q_p0_bits q_p0_closings f_p0_bits f_p0_closings z_p0_bits q2 z_p0_pairs)) := hD
      refine lx_iinc (k := 2) (d := 1) hx hb dTR_tell_49 hl rfl (by decide +kernel) (by decide) rfl (fun ls hl => ?_)
      refine lv_goto (tgt := 2) hx hb dTR_tell_52 (by decide) ?_
      have hf := fz_s hf
      exact IH.1 (iA l2 1) q2 _ _ _ hf (lv_sub hl [1, 2, 0] rfl) hP hD hS
    · refine lv_aload_n hx hb dTR_tell_24 rfl (lv_at hl 0 rfl) ?_
      refine va_get (D := (dC, dI)) (ci := 3) (v := .ref q_t_lows) (C := RTR) (T := TTR) (N := 3) hx hb hws uwTR hown hK hP 0 rfl rfl 0 (by decide) (hws _ kf_TR_9) (fun _ h9 => h9) rfl dTR_tell_25 ?_
      refine lv_iload hx hb dTR_tell_28 (lv_at hl 4 rfl) ?_
      refine lx_iald hx hb hK hP 1 0 rfl rfl (by decide) dTR_tell_30 hf (fun v4 _ hf => ?_)
      refine lv_iload_n hx hb dTR_tell_31 rfl (lv_at hl 2 rfl) ?_
      refine lx_icmp_ge (tgt := 38) hx hb dTR_tell_32 (by decide) hf (fun hf => ?_) (fun hf => ?_)
      · exact hj_38 _ IH l2 l3 l4 y_p0_closings _ _ _ hf (lv_sub hl [0, 1, 2, 3, 4] rfl) hP hD hS
      · refine lx_iinc (k := 3) (d := 1) hx hb dTR_tell_35 hl rfl (by decide +kernel) (by decide) rfl (fun ls hl => ?_)
        have hf := fz_s hf
        exact hj_38 _ IH l2 (iA l3 1) l4 y_p0_closings _ _ _ hf (lv_sub hl [1, 2, 3, 0, 4] rfl) hP hD hS
  have key : ∀ k : Nat, (∀ (l2 y_p0_closings : Nat) (H : Heap) (locs : List Loc) (ls : Array Slot), fr_TR_tell z_t_lows z_t_diagonals z_p0_closings z_p0_pairs k 0 l2 y_p0_closings 0 0 = some r → lv_has ls 5 [(0, .ref q_t), (1, .ref q_p0), (2, .int (nI l2))] → va_P (dC, dI) vwCl ((w_TR K q_t q_t_lows q_t_highs f_t_lows f_t_highs z_t_lows z_t_highs z_t_diagonals) ++ (w_WD K q_p0 q_p0_bits q_p0_closings f_p0_bits f_p0_closings z_p0_bits y_p0_closings z_p0_pairs)) H → va_D A ((w_TR K q_t q_t_lows q_t_highs f_t_lows f_t_highs z_t_lows z_t_highs z_t_diagonals) ++ (w_WD K q_p0 q_p0_bits q_p0_closings f_p0_bits f_p0_closings z_p0_bits y_p0_closings z_p0_pairs)) → va_S A s.heap H locs → W p l e (headSpec wc_TR_tell rm_TR_tell).room s m args below meth c H locs 0 0 Q (F0 m 2 ls [])) ∧ (∀ (l2 l3 l4 y_p0_closings : Nat) (H : Heap) (locs : List Loc) (ls : Array Slot), fr_TR_tell z_t_lows z_t_diagonals z_p0_closings z_p0_pairs k 1 l2 l3 l4 y_p0_closings = some r → lv_has ls 5 [(0, .ref q_t), (1, .ref q_p0), (2, .int (nI l2)), (3, .int (nI l3)), (4, .int (nI l4))] → va_P (dC, dI) vwCl ((w_TR K q_t q_t_lows q_t_highs f_t_lows f_t_highs z_t_lows z_t_highs z_t_diagonals) ++ (w_WD K q_p0 q_p0_bits q_p0_closings f_p0_bits f_p0_closings z_p0_bits y_p0_closings z_p0_pairs)) H → va_D A ((w_TR K q_t q_t_lows q_t_highs f_t_lows f_t_highs z_t_lows z_t_highs z_t_diagonals) ++ (w_WD K q_p0 q_p0_bits q_p0_closings f_p0_bits f_p0_closings z_p0_bits y_p0_closings z_p0_pairs)) → va_S A s.heap H locs → W p l e (headSpec wc_TR_tell rm_TR_tell).room s m args below meth c H locs 0 0 Q (F0 m 15 ls [])) := by
    intro k
    induction k with
    | zero => exact ⟨fun l2 y_p0_closings H locs ls hf _ _ _ _ => no_s (α := Nat) (r := r) hf, fun l2 l3 l4 y_p0_closings H locs ls hf _ _ _ _ => no_s (α := Nat) (r := r) hf⟩
    | succ k IH => exact ⟨fun l2 y_p0_closings H locs ls hf => hb_2 (fr_TR_tell z_t_lows z_t_diagonals z_p0_closings z_p0_pairs k) IH l2 y_p0_closings H locs ls ((frs_TR_tell_2 z_t_lows z_t_diagonals z_p0_closings z_p0_pairs k l2 y_p0_closings).symm.trans hf), fun l2 l3 l4 y_p0_closings H locs ls hf => hb_15 (fr_TR_tell z_t_lows z_t_diagonals z_p0_closings z_p0_pairs k) IH l2 l3 l4 y_p0_closings H locs ls ((frs_TR_tell_15 z_t_lows z_t_diagonals z_p0_closings z_p0_pairs k l2 l3 l4 y_p0_closings).symm.trans hf)⟩
  have IH := key 1000000
  have hf : e_TR_tell (fr_TR_tell z_t_lows z_t_diagonals z_p0_closings z_p0_pairs 1000000) z_t_lows z_t_diagonals z_p0_closings z_p0_pairs = some r := hf
  unfold e_TR_tell at hf
  generalize fr_TR_tell z_t_lows z_t_diagonals z_p0_closings z_p0_pairs 1000000 = ih at hf IH
  refine lv_iconst (v := nI 1) hx hb dTR_tell_0 (by decide +kernel) ?_
  refine lv_istore_n hx hb dTR_tell_1 rfl hl (by decide) rfl (fun ls hl => ?_)
  exact IH.1 1 z_p0_closings _ _ _ hf (lv_sub hl [1, 2, 0] rfl) hP hD hS
noncomputable def b_TR_read_12 (ih : Nat → Nat → Nat → Nat → Nat → Option (Nat × Nat × Nat × Nat)) (z_t_lows : Nat) (z_t_highs : Nat) (z_t_diagonals : Nat) (z_p0 : Nat) (z_p1_closings : Nat) (z_p1_pairs : Nat) (l3 : Nat) (y_t_lows : Nat) (y_t_highs : Nat) (y_t_diagonals : Nat) (y_p1_closings : Nat) : Option (Nat × Nat × Nat × Nat) := (bif iLt l3 y_t_diagonals then (rd z_p0 20 (iM 2 l3) (fun v4 => (bif Nat.blt l3 9 then (rd z_p0 20 (iA (iM 2 l3) 1) (fun v5 => (bif Nat.blt l3 9 then (fz (iA l3 1) (fun u6 => fz (aw y_t_lows l3 v4) (fun u7 => fz (aw y_t_highs l3 v5) (fun u8 => ih u6 u7 u8 y_t_diagonals y_p1_closings)))) else none))) else none))) else (Option.bind (f_TR_tell y_t_lows y_t_diagonals y_p1_closings z_p1_pairs) (fun q3 => some (y_t_lows, y_t_highs, y_t_diagonals, q3))))
noncomputable def fr_TR_read (z_t_lows : Nat) (z_t_highs : Nat) (z_t_diagonals : Nat) (z_p0 : Nat) (z_p1_closings : Nat) (z_p1_pairs : Nat) (k : Nat) : Nat → Nat → Nat → Nat → Nat → Option (Nat × Nat × Nat × Nat) := Nat.rec (motive := fun _ => Nat → Nat → Nat → Nat → Nat → Option (Nat × Nat × Nat × Nat)) (fun _ _ _ _ _ => none) (fun _ ih a0 a1 a2 a3 a4 => b_TR_read_12 ih z_t_lows z_t_highs z_t_diagonals z_p0 z_p1_closings z_p1_pairs a0 a1 a2 a3 a4) k
theorem frs_TR_read_12 (z_t_lows : Nat) (z_t_highs : Nat) (z_t_diagonals : Nat) (z_p0 : Nat) (z_p1_closings : Nat) (z_p1_pairs : Nat) (k : Nat) (l3 : Nat) (y_t_lows : Nat) (y_t_highs : Nat) (y_t_diagonals : Nat) (y_p1_closings : Nat) : fr_TR_read z_t_lows z_t_highs z_t_diagonals z_p0 z_p1_closings z_p1_pairs (k + 1) l3 y_t_lows y_t_highs y_t_diagonals y_p1_closings = b_TR_read_12 (fr_TR_read z_t_lows z_t_highs z_t_diagonals z_p0 z_p1_closings z_p1_pairs k) z_t_lows z_t_highs z_t_diagonals z_p0 z_p1_closings z_p1_pairs l3 y_t_lows y_t_highs y_t_diagonals y_p1_closings := rfl
noncomputable def e_TR_read (ih : Nat → Nat → Nat → Nat → Nat → Option (Nat × Nat × Nat × Nat)) (z_t_lows : Nat) (z_t_highs : Nat) (z_t_diagonals : Nat) (z_p0 : Nat) (z_p1_closings : Nat) (z_p1_pairs : Nat) : Option (Nat × Nat × Nat × Nat) := (Option.bind (f_WD_pairs z_p1_pairs) (fun q1 => (fz (iS q1 1) (fun u2 => ih 0 z_t_lows z_t_highs u2 z_p1_closings))))
noncomputable def f_TR_read (z_t_lows : Nat) (z_t_highs : Nat) (z_t_diagonals : Nat) (z_p0 : Nat) (z_p1_closings : Nat) (z_p1_pairs : Nat) : Option (Nat × Nat × Nat × Nat) := e_TR_read (fr_TR_read z_t_lows z_t_highs z_t_diagonals z_p0 z_p1_closings z_p1_pairs 1000000) z_t_lows z_t_highs z_t_diagonals z_p0 z_p1_closings z_p1_pairs
abbrev rm_TR_read : Room := { frames := 2, cells := 0, slots := 0, locals := 45 }
set_option maxHeartbeats 4000000 in
set_option maxRecDepth 100000 in
theorem ct_TR_read (l : Launch) (dC : Nat → ClassId) (dI : Nat → Nat → Nat) (K : Nat → ClassId) (q_t : Nat) (q_t_lows : Nat) (q_t_highs : Nat) (q_p0 : Nat) (q_p1 : Nat) (q_p1_bits : Nat) (q_p1_closings : Nat) (f_t_lows : Nat → Int32) (f_t_highs : Nat → Int32) (f_p0 : Nat → Int32) (f_p1_bits : Nat → Int32) (f_p1_closings : Nat → Int32) (z_t_lows : Nat) (z_t_highs : Nat) (z_t_diagonals : Nat) (z_p0 : Nat) (z_p1_bits : Nat) (z_p1_closings : Nat) (z_p1_pairs : Nat) (r : Nat × Nat × Nat × Nat) (hf : f_TR_read z_t_lows z_t_highs z_t_diagonals z_p0 z_p1_closings z_p1_pairs = some r) : Ct l (dC, dI) vwCl yTR_read wc_TR_read rm_TR_read (tyK K) [.ref q_t, .ref q_p0, .ref q_p1] ((w_TR K q_t q_t_lows q_t_highs f_t_lows f_t_highs z_t_lows z_t_highs z_t_diagonals) ++ (wArr K 20 q_p0 f_p0 z_p0) ++ (w_WD K q_p1 q_p1_bits q_p1_closings f_p1_bits f_p1_closings z_p1_bits z_p1_closings z_p1_pairs)) ((w_TR K q_t q_t_lows q_t_highs f_t_lows f_t_highs r.1 r.2.1 r.2.2.1) ++ (wArr K 20 q_p0 f_p0 z_p0) ++ (w_WD K q_p1 q_p1_bits q_p1_closings f_p1_bits f_p1_closings z_p1_bits r.2.2.2 z_p1_pairs)) none := by
  intro sz
  refine Met.ofW (cc := cTR_read) (maxL := 4) (ret := none) (by decide) rfl ?_
  intro p e s m args below meth c s₁ B hml hv
  obtain ⟨rfl, hsz, hP, hK, hD0⟩ := hv
  have hx := B.exec
  have hb := B.bytes
  have hr := B.returns
  have hts := atoms_spec (ws := wc_TR_read) B.pre
  have hws : ∀ w ∈ WS, w.before _ s = true := fun w h => hts w (List.mem_cons_of_mem _ h)
  have hown : s.vm.findClass RTR = some m.cls := findClass_of_methodNamed B.named
  have hlocks := B.notSynchronized
  subst hsz
  have hD := hD0.self (sz := s.heap.size)
  generalize hAe : va_A ((w_TR K q_t q_t_lows q_t_highs f_t_lows f_t_highs z_t_lows z_t_highs z_t_diagonals) ++ (wArr K 20 q_p0 f_p0 z_p0) ++ (w_WD K q_p1 q_p1_bits q_p1_closings f_p1_bits f_p1_closings z_p1_bits z_p1_closings z_p1_pairs)) s.heap.size = A at hD ⊢
  have hA : ∀ q : Nat, s.heap.size ≤ q → A q := fun q h => by rw [← hAe]; exact Or.inr h
  have hS : va_S A s.heap s.heap [] := va_S.rf
  have hl := lv_entry ([.ref q_t, .ref q_p0, .ref q_p1]) (n := 4) (Nat.le_of_ble_eq_true rfl)
  rw [lg_entry_eq]
  generalize (lg_sl ([.ref q_t, .ref q_p0, .ref q_p1]) ++ List.replicate (4 - (lg_sl ([.ref q_t, .ref q_p0, .ref q_p1])).length) Slot.unset).toArray = ls at hl ⊢
  have hl : lv_has ls 4 [(0, .ref q_t), (1, .ref q_p0), (2, .ref q_p1)] := hl
  generalize ([.ref q_t, .ref q_p0, .ref q_p1] : List Value).toArray = args at hts hws ⊢
  generalize hQ : MQ below _ _ _ _ _ _ = Q
  have hb_12 : ∀ (ih : Nat → Nat → Nat → Nat → Nat → Option (Nat × Nat × Nat × Nat)) (IH : (∀ (l3 y_t_lows y_t_highs y_t_diagonals y_p1_closings : Nat) (H : Heap) (locs : List Loc) (ls : Array Slot), ih l3 y_t_lows y_t_highs y_t_diagonals y_p1_closings = some r → lv_has ls 4 [(0, .ref q_t), (1, .ref q_p0), (2, .ref q_p1), (3, .int (nI l3))] → va_P (dC, dI) vwCl ((w_TR K q_t q_t_lows q_t_highs f_t_lows f_t_highs y_t_lows y_t_highs y_t_diagonals) ++ (wArr K 20 q_p0 f_p0 z_p0) ++ (w_WD K q_p1 q_p1_bits q_p1_closings f_p1_bits f_p1_closings z_p1_bits y_p1_closings z_p1_pairs)) H → va_D A ((w_TR K q_t q_t_lows q_t_highs f_t_lows f_t_highs y_t_lows y_t_highs y_t_diagonals) ++ (wArr K 20 q_p0 f_p0 z_p0) ++ (w_WD K q_p1 q_p1_bits q_p1_closings f_p1_bits f_p1_closings z_p1_bits y_p1_closings z_p1_pairs)) → va_S A s.heap H locs → W p l e (headSpec wc_TR_read rm_TR_read).room s m args below meth c H locs 0 0 Q (F0 m 12 ls []))), ∀ (l3 y_t_lows y_t_highs y_t_diagonals y_p1_closings : Nat) (H : Heap) (locs : List Loc) (ls : Array Slot), b_TR_read_12 ih z_t_lows z_t_highs z_t_diagonals z_p0 z_p1_closings z_p1_pairs l3 y_t_lows y_t_highs y_t_diagonals y_p1_closings = some r → lv_has ls 4 [(0, .ref q_t), (1, .ref q_p0), (2, .ref q_p1), (3, .int (nI l3))] → va_P (dC, dI) vwCl ((w_TR K q_t q_t_lows q_t_highs f_t_lows f_t_highs y_t_lows y_t_highs y_t_diagonals) ++ (wArr K 20 q_p0 f_p0 z_p0) ++ (w_WD K q_p1 q_p1_bits q_p1_closings f_p1_bits f_p1_closings z_p1_bits y_p1_closings z_p1_pairs)) H → va_D A ((w_TR K q_t q_t_lows q_t_highs f_t_lows f_t_highs y_t_lows y_t_highs y_t_diagonals) ++ (wArr K 20 q_p0 f_p0 z_p0) ++ (w_WD K q_p1 q_p1_bits q_p1_closings f_p1_bits f_p1_closings z_p1_bits y_p1_closings z_p1_pairs)) → va_S A s.heap H locs → W p l e (headSpec wc_TR_read rm_TR_read).room s m args below meth c H locs 0 0 Q (F0 m 12 ls []) := by
    intro ih IH l3 y_t_lows y_t_highs y_t_diagonals y_p1_closings H locs ls hf hl hP hD hS
    unfold b_TR_read_12 at hf
    refine lv_iload_n hx hb dTR_read_12 rfl (lv_at hl 3 rfl) ?_
    refine lv_aload_n hx hb dTR_read_13 rfl (lv_at hl 0 rfl) ?_
    refine va_get (D := (dC, dI)) (ci := 3) (v := .int (nI y_t_diagonals)) (C := RTR) (T := TTR) (N := 3) hx hb hws uwTR hown hK hP 0 rfl rfl 2 (by decide) (hws _ kf_TR_18) (fun _ h9 => h9) rfl dTR_read_14 ?_
    refine lx_icmp_ge (tgt := 50) hx hb dTR_read_17 (by decide) hf (fun hf => ?_) (fun hf => ?_)
    · refine lv_aload_n hx hb dTR_read_50 rfl (lv_at hl 0 rfl) ?_
      refine lv_aload_n hx hb dTR_read_51 rfl (lv_at hl 2 rfl) ?_
      obtain ⟨q3, hq, hf⟩ := bd_s hf
      refine ct_callv (ws' := (w_TR K q_t q_t_lows q_t_highs f_t_lows f_t_highs y_t_lows y_t_highs y_t_diagonals) ++ (wArr K 20 q_p0 f_p0 z_p0) ++ (w_WD K q_p1 q_p1_bits q_p1_closings f_p1_bits f_p1_closings z_p1_bits q3 z_p1_pairs)) (va_runV (As := [.ref q_p1]) (rest := []) ⟨hx, hb, hml, hown, hws⟩ (ct_TR_tell l dC dI K q_t q_t_lows q_t_highs q_p1 q_p1_bits q_p1_closings f_t_lows f_t_highs f_p1_bits f_p1_closings y_t_lows y_t_highs y_t_diagonals z_p1_bits y_p1_closings z_p1_pairs q3 hq _) ⟨cb_TR_tell hws rm_TR_tell (hws _ km_TR_32) ⟨Nat.le_of_ble_eq_true rfl, Nat.le_of_ble_eq_true rfl⟩, hws _ ki_TR_tell, hws _ ke_TR_TR_tell_TR_tell⟩ ⟨ct_blind _ _ _, va_recv (ci := 3) (q0 := 0) (q := (RTR, TTR, 3)) hK hP rfl rfl, ct_pre (cs := ((w_TR K q_t q_t_lows q_t_highs f_t_lows f_t_highs y_t_lows y_t_highs y_t_diagonals) ++ (w_WD K q_p1 q_p1_bits q_p1_closings f_p1_bits f_p1_closings z_p1_bits y_p1_closings z_p1_pairs))) hP hD hK [0, 1, 2, 4, 5, 6] (by decide) rfl _⟩ rfl rfl hl.1 rfl (lv_room (Nat.le_of_ble_eq_true rfl)) dTR_read_52 ⟨Nat.le_of_ble_eq_true rfl, Nat.le_of_ble_eq_true rfl⟩) hP hD hS hA [0, 1, 2, 4, 5, 6] rfl rfl rfl rfl (fun H locs hP hD hS => ?_)
      have hP : va_P (dC, dI) vwCl ((w_TR K q_t q_t_lows q_t_highs f_t_lows f_t_highs y_t_lows y_t_highs y_t_diagonals) ++ (wArr K 20 q_p0 f_p0 z_p0) ++ (w_WD K q_p1 q_p1_bits q_p1_closings f_p1_bits f_p1_closings z_p1_bits q3 z_p1_pairs)) H := hP
      have hD : va_D A ((w_TR K q_t q_t_lows q_t_highs f_t_lows f_t_highs y_t_lows y_t_highs y_t_diagonals) ++ (wArr K 20 q_p0 f_p0 z_p0) ++ (w_WD K q_p1 q_p1_bits q_p1_closings f_p1_bits f_p1_closings z_p1_bits q3 z_p1_pairs)) := hD
      obtain rfl := Option.some.inj hf
      rw [← hQ]
      exact W.vret hx hb hr (fun t ht hW => ⟨⟨rfl, by rw [ht]; exact hP⟩, hS.F ht⟩) hS.2.2 dTR_read_55
    · refine lv_aload_n hx hb dTR_read_20 rfl (lv_at hl 0 rfl) ?_
      refine va_get (D := (dC, dI)) (ci := 3) (v := .ref q_t_lows) (C := RTR) (T := TTR) (N := 3) hx hb hws uwTR hown hK hP 0 rfl rfl 0 (by decide) (hws _ kf_TR_9) (fun _ h9 => h9) rfl dTR_read_21 ?_
      refine lv_iload_n hx hb dTR_read_24 rfl (lv_at hl 3 rfl) ?_
      refine lv_aload_n hx hb dTR_read_25 rfl (lv_at hl 1 rfl) ?_
      refine lv_iconst (v := nI 2) hx hb dTR_read_26 (by decide +kernel) ?_
      refine lv_iload_n hx hb dTR_read_27 rfl (lv_at hl 3 rfl) ?_
      refine lx_imul hx hb dTR_read_28 ?_
      refine lx_iald hx hb hK hP 3 0 rfl rfl (by decide) dTR_read_29 hf (fun v4 _ hf => ?_)
      refine lx_iast hx hb hK hP hD hS 1 0 rfl rfl (by decide) dTR_read_30 hf (fun hf H locs hP hD hS => ?_)
      have hP : va_P (dC, dI) vwCl ((w_TR K q_t q_t_lows q_t_highs f_t_lows f_t_highs (aw y_t_lows l3 v4) y_t_highs y_t_diagonals) ++ (wArr K 20 q_p0 f_p0 z_p0) ++ (w_WD K q_p1 q_p1_bits q_p1_closings f_p1_bits f_p1_closings z_p1_bits y_p1_closings z_p1_pairs)) H := hP
      have hD : va_D A ((w_TR K q_t q_t_lows q_t_highs f_t_lows f_t_highs (aw y_t_lows l3 v4) y_t_highs y_t_diagonals) ++ (wArr K 20 q_p0 f_p0 z_p0) ++ (w_WD K q_p1 q_p1_bits q_p1_closings f_p1_bits f_p1_closings z_p1_bits y_p1_closings z_p1_pairs)) := hD
      refine lv_aload_n hx hb dTR_read_31 rfl (lv_at hl 0 rfl) ?_
      refine va_get (D := (dC, dI)) (ci := 3) (v := .ref q_t_highs) (C := RTR) (T := TTR) (N := 3) hx hb hws uwTR hown hK hP 0 rfl rfl 1 (by decide) (hws _ kf_TR_15) (fun _ h9 => h9) rfl dTR_read_32 ?_
      refine lv_iload_n hx hb dTR_read_35 rfl (lv_at hl 3 rfl) ?_
      refine lv_aload_n hx hb dTR_read_36 rfl (lv_at hl 1 rfl) ?_
      refine lv_iconst (v := nI 2) hx hb dTR_read_37 (by decide +kernel) ?_
      refine lv_iload_n hx hb dTR_read_38 rfl (lv_at hl 3 rfl) ?_
      refine lx_imul hx hb dTR_read_39 ?_
      refine lv_iconst (v := nI 1) hx hb dTR_read_40 (by decide +kernel) ?_
      refine lx_iadd hx hb dTR_read_41 ?_
      refine lx_iald hx hb hK hP 3 0 rfl rfl (by decide) dTR_read_42 hf (fun v5 _ hf => ?_)
      refine lx_iast hx hb hK hP hD hS 2 0 rfl rfl (by decide) dTR_read_43 hf (fun hf H locs hP hD hS => ?_)
      have hP : va_P (dC, dI) vwCl ((w_TR K q_t q_t_lows q_t_highs f_t_lows f_t_highs (aw y_t_lows l3 v4) (aw y_t_highs l3 v5) y_t_diagonals) ++ (wArr K 20 q_p0 f_p0 z_p0) ++ (w_WD K q_p1 q_p1_bits q_p1_closings f_p1_bits f_p1_closings z_p1_bits y_p1_closings z_p1_pairs)) H := hP
      have hD : va_D A ((w_TR K q_t q_t_lows q_t_highs f_t_lows f_t_highs (aw y_t_lows l3 v4) (aw y_t_highs l3 v5) y_t_diagonals) ++ (wArr K 20 q_p0 f_p0 z_p0) ++ (w_WD K q_p1 q_p1_bits q_p1_closings f_p1_bits f_p1_closings z_p1_bits y_p1_closings z_p1_pairs)) := hD
      refine lx_iinc (k := 3) (d := 1) hx hb dTR_read_44 hl rfl (by decide +kernel) (by decide) rfl (fun ls hl => ?_)
      refine lv_goto (tgt := 12) hx hb dTR_read_47 (by decide) ?_
      have hf := fz_s hf
      have hf := fz_s hf
      have hf := fz_s hf
      exact IH (iA l3 1) (aw y_t_lows l3 v4) (aw y_t_highs l3 v5) y_t_diagonals y_p1_closings _ _ _ hf (lv_sub hl [1, 2, 3, 0] rfl) hP hD hS
  have key : ∀ k : Nat, (∀ (l3 y_t_lows y_t_highs y_t_diagonals y_p1_closings : Nat) (H : Heap) (locs : List Loc) (ls : Array Slot), fr_TR_read z_t_lows z_t_highs z_t_diagonals z_p0 z_p1_closings z_p1_pairs k l3 y_t_lows y_t_highs y_t_diagonals y_p1_closings = some r → lv_has ls 4 [(0, .ref q_t), (1, .ref q_p0), (2, .ref q_p1), (3, .int (nI l3))] → va_P (dC, dI) vwCl ((w_TR K q_t q_t_lows q_t_highs f_t_lows f_t_highs y_t_lows y_t_highs y_t_diagonals) ++ (wArr K 20 q_p0 f_p0 z_p0) ++ (w_WD K q_p1 q_p1_bits q_p1_closings f_p1_bits f_p1_closings z_p1_bits y_p1_closings z_p1_pairs)) H → va_D A ((w_TR K q_t q_t_lows q_t_highs f_t_lows f_t_highs y_t_lows y_t_highs y_t_diagonals) ++ (wArr K 20 q_p0 f_p0 z_p0) ++ (w_WD K q_p1 q_p1_bits q_p1_closings f_p1_bits f_p1_closings z_p1_bits y_p1_closings z_p1_pairs)) → va_S A s.heap H locs → W p l e (headSpec wc_TR_read rm_TR_read).room s m args below meth c H locs 0 0 Q (F0 m 12 ls [])) := by
    intro k
    induction k with
    | zero => exact fun l3 y_t_lows y_t_highs y_t_diagonals y_p1_closings H locs ls hf _ _ _ _ => no_s (α := Nat × Nat × Nat × Nat) (r := r) hf
    | succ k IH => exact fun l3 y_t_lows y_t_highs y_t_diagonals y_p1_closings H locs ls hf => hb_12 (fr_TR_read z_t_lows z_t_highs z_t_diagonals z_p0 z_p1_closings z_p1_pairs k) IH l3 y_t_lows y_t_highs y_t_diagonals y_p1_closings H locs ls ((frs_TR_read_12 z_t_lows z_t_highs z_t_diagonals z_p0 z_p1_closings z_p1_pairs k l3 y_t_lows y_t_highs y_t_diagonals y_p1_closings).symm.trans hf)
  have IH := key 1000000
  have hf : e_TR_read (fr_TR_read z_t_lows z_t_highs z_t_diagonals z_p0 z_p1_closings z_p1_pairs 1000000) z_t_lows z_t_highs z_t_diagonals z_p0 z_p1_closings z_p1_pairs = some r := hf
  unfold e_TR_read at hf
  generalize fr_TR_read z_t_lows z_t_highs z_t_diagonals z_p0 z_p1_closings z_p1_pairs 1000000 = ih at hf IH
  refine lv_aload_n hx hb dTR_read_0 rfl (lv_at hl 0 rfl) ?_
  refine lv_aload_n hx hb dTR_read_1 rfl (lv_at hl 2 rfl) ?_
  obtain ⟨q1, hq, hf⟩ := bd_s hf
  refine ct_callr (ws' := (w_TR K q_t q_t_lows q_t_highs f_t_lows f_t_highs z_t_lows z_t_highs z_t_diagonals) ++ (wArr K 20 q_p0 f_p0 z_p0) ++ (w_WD K q_p1 q_p1_bits q_p1_closings f_p1_bits f_p1_closings z_p1_bits z_p1_closings z_p1_pairs)) (va_runV (As := []) (rest := [.ref q_t]) ⟨hx, hb, hml, hown, hws⟩ (ct_WD_pairs l dC dI K q_p1 q_p1_bits q_p1_closings f_p1_bits f_p1_closings z_p1_bits z_p1_closings z_p1_pairs q1 hq _) ⟨cb_WD_pairs hws rm_WD_pairs (hws _ km_TR_26) ⟨Nat.le_of_ble_eq_true rfl, Nat.le_of_ble_eq_true rfl⟩, hws _ ki_WD_pairs, hws _ ke_WD_WD_pairs_WD_pairs⟩ ⟨ct_blind _ _ _, va_recv (ci := 8) (q0 := 4) (q := (RWD, TWD, 3)) hK hP rfl rfl, ct_pre (cs := (w_WD K q_p1 q_p1_bits q_p1_closings f_p1_bits f_p1_closings z_p1_bits z_p1_closings z_p1_pairs)) hP hD hK [4, 5, 6] (by decide) rfl _⟩ rfl rfl hl.1 rfl (lv_room (Nat.le_of_ble_eq_true rfl)) dTR_read_2 ⟨Nat.le_of_ble_eq_true rfl, Nat.le_of_ble_eq_true rfl⟩) hP hD hS hA [4, 5, 6] rfl rfl rfl rfl (fun H locs hP hD hS => ?_)
  refine lv_iconst (v := nI 1) hx hb dTR_read_5 (by decide +kernel) ?_
  refine lx_isub hx hb dTR_read_6 ?_
  refine va_put (D := (dC, dI)) (ci := 3) (v := .int (nI (iS q1 1))) (ty := .int) (C := RTR) (T := TTR) (N := 3) hx hb hws uwTR tyTR okTR nmTR hown hK hP hD hS 0 rfl rfl 2 (by decide) (hws _ kf_TR_18) (fun _ h9 => h9) rfl (by decide +kernel) rfl rfl (Nat.le_of_ble_eq_true rfl) dTR_read_7 (fun H locs hP hD hS => ?_)
  have hP : va_P (dC, dI) vwCl ((w_TR K q_t q_t_lows q_t_highs f_t_lows f_t_highs z_t_lows z_t_highs (iS q1 1)) ++ (wArr K 20 q_p0 f_p0 z_p0) ++ (w_WD K q_p1 q_p1_bits q_p1_closings f_p1_bits f_p1_closings z_p1_bits z_p1_closings z_p1_pairs)) H := hP
  have hD : va_D A ((w_TR K q_t q_t_lows q_t_highs f_t_lows f_t_highs z_t_lows z_t_highs (iS q1 1)) ++ (wArr K 20 q_p0 f_p0 z_p0) ++ (w_WD K q_p1 q_p1_bits q_p1_closings f_p1_bits f_p1_closings z_p1_bits z_p1_closings z_p1_pairs)) := hD
  refine lv_iconst (v := nI 0) hx hb dTR_read_10 (by decide +kernel) ?_
  refine lv_istore_n hx hb dTR_read_11 rfl hl (by decide) rfl (fun ls hl => ?_)
  have hf := fz_s hf
  exact IH 0 z_t_lows z_t_highs (iS q1 1) z_p1_closings _ _ _ hf (lv_sub hl [1, 2, 3, 0] rfl) hP hD hS
noncomputable def j_TR_moveCorners_67 (ih : Nat → Nat → Nat → Option (Nat × Nat)) (z_t_lows : Nat) (z_t_highs : Nat) (z_t_diagonals : Nat) (l1 : Nat) (y_t_lows : Nat) (y_t_highs : Nat) : Option (Nat × Nat) := (fz (iA l1 1) (fun u10 => ih u10 y_t_lows y_t_highs))
noncomputable def b_TR_moveCorners_2 (ih : Nat → Nat → Nat → Option (Nat × Nat)) (z_t_lows : Nat) (z_t_highs : Nat) (z_t_diagonals : Nat) (l1 : Nat) (y_t_lows : Nat) (y_t_highs : Nat) : Option (Nat × Nat) := (bif iLt l1 z_t_diagonals then (rd y_t_highs 9 l1 (fun v1 => (Option.bind (f_TR_lastCorner z_t_diagonals) (fun q2 => (bif iEq v1 q2 then (rd y_t_lows 9 l1 (fun v7 => (bif Nat.blt l1 9 then (bif Nat.blt l1 9 then (fz (aw y_t_lows l1 0) (fun u8 => fz (aw y_t_highs l1 (iA v7 1)) (fun u9 => j_TR_moveCorners_67 ih z_t_lows z_t_highs z_t_diagonals l1 u8 u9))) else none) else none))) else (rd y_t_lows 9 l1 (fun v3 => (bif Nat.blt l1 9 then (rd y_t_highs 9 l1 (fun v4 => (bif Nat.blt l1 9 then (fz (aw y_t_lows l1 (iA v3 1)) (fun u5 => fz (aw y_t_highs l1 (iA v4 1)) (fun u6 => j_TR_moveCorners_67 ih z_t_lows z_t_highs z_t_diagonals l1 u5 u6))) else none))) else none)))))))) else some (y_t_lows, y_t_highs))
noncomputable def fr_TR_moveCorners (z_t_lows : Nat) (z_t_highs : Nat) (z_t_diagonals : Nat) (k : Nat) : Nat → Nat → Nat → Option (Nat × Nat) := Nat.rec (motive := fun _ => Nat → Nat → Nat → Option (Nat × Nat)) (fun _ _ _ => none) (fun _ ih a0 a1 a2 => b_TR_moveCorners_2 ih z_t_lows z_t_highs z_t_diagonals a0 a1 a2) k
theorem frs_TR_moveCorners_2 (z_t_lows : Nat) (z_t_highs : Nat) (z_t_diagonals : Nat) (k : Nat) (l1 : Nat) (y_t_lows : Nat) (y_t_highs : Nat) : fr_TR_moveCorners z_t_lows z_t_highs z_t_diagonals (k + 1) l1 y_t_lows y_t_highs = b_TR_moveCorners_2 (fr_TR_moveCorners z_t_lows z_t_highs z_t_diagonals k) z_t_lows z_t_highs z_t_diagonals l1 y_t_lows y_t_highs := rfl
noncomputable def e_TR_moveCorners (ih : Nat → Nat → Nat → Option (Nat × Nat)) (z_t_lows : Nat) (z_t_highs : Nat) (z_t_diagonals : Nat) : Option (Nat × Nat) := (ih 0 z_t_lows z_t_highs)
noncomputable def f_TR_moveCorners (z_t_lows : Nat) (z_t_highs : Nat) (z_t_diagonals : Nat) : Option (Nat × Nat) := e_TR_moveCorners (fr_TR_moveCorners z_t_lows z_t_highs z_t_diagonals 1000000) z_t_lows z_t_highs z_t_diagonals
abbrev rm_TR_moveCorners : Room := { frames := 1, cells := 0, slots := 0, locals := 20 }
set_option maxHeartbeats 4000000 in
set_option maxRecDepth 100000 in
theorem ct_TR_moveCorners (l : Launch) (dC : Nat → ClassId) (dI : Nat → Nat → Nat) (K : Nat → ClassId) (q_t : Nat) (q_t_lows : Nat) (q_t_highs : Nat) (f_t_lows : Nat → Int32) (f_t_highs : Nat → Int32) (z_t_lows : Nat) (z_t_highs : Nat) (z_t_diagonals : Nat) (r : Nat × Nat) (hf : f_TR_moveCorners z_t_lows z_t_highs z_t_diagonals = some r) : Ct l (dC, dI) vwCl yTR_moveCorners wc_TR_moveCorners rm_TR_moveCorners (tyK K) [.ref q_t] (w_TR K q_t q_t_lows q_t_highs f_t_lows f_t_highs z_t_lows z_t_highs z_t_diagonals) (w_TR K q_t q_t_lows q_t_highs f_t_lows f_t_highs r.1 r.2 z_t_diagonals) none := by
  intro sz
  refine Met.ofW (cc := cTR_moveCorners) (maxL := 2) (ret := none) (by decide) rfl ?_
  intro p e s m args below meth c s₁ B hml hv
  obtain ⟨rfl, hsz, hP, hK, hD0⟩ := hv
  have hx := B.exec
  have hb := B.bytes
  have hr := B.returns
  have hts := atoms_spec (ws := wc_TR_moveCorners) B.pre
  have hws : ∀ w ∈ WS, w.before _ s = true := fun w h => hts w (List.mem_cons_of_mem _ h)
  have hown : s.vm.findClass RTR = some m.cls := findClass_of_methodNamed B.named
  have hlocks := B.notSynchronized
  subst hsz
  have hD := hD0.self (sz := s.heap.size)
  generalize hAe : va_A (w_TR K q_t q_t_lows q_t_highs f_t_lows f_t_highs z_t_lows z_t_highs z_t_diagonals) s.heap.size = A at hD ⊢
  have hA : ∀ q : Nat, s.heap.size ≤ q → A q := fun q h => by rw [← hAe]; exact Or.inr h
  have hS : va_S A s.heap s.heap [] := va_S.rf
  have hl := lv_entry ([.ref q_t]) (n := 2) (Nat.le_of_ble_eq_true rfl)
  rw [lg_entry_eq]
  generalize (lg_sl ([.ref q_t]) ++ List.replicate (2 - (lg_sl ([.ref q_t])).length) Slot.unset).toArray = ls at hl ⊢
  have hl : lv_has ls 2 [(0, .ref q_t)] := hl
  generalize ([.ref q_t] : List Value).toArray = args at hts hws ⊢
  generalize hQ : MQ below _ _ _ _ _ _ = Q
  have hj_67 : ∀ (ih : Nat → Nat → Nat → Option (Nat × Nat)) (IH : (∀ (l1 y_t_lows y_t_highs : Nat) (H : Heap) (locs : List Loc) (ls : Array Slot), ih l1 y_t_lows y_t_highs = some r → lv_has ls 2 [(0, .ref q_t), (1, .int (nI l1))] → va_P (dC, dI) vwCl (w_TR K q_t q_t_lows q_t_highs f_t_lows f_t_highs y_t_lows y_t_highs z_t_diagonals) H → va_D A (w_TR K q_t q_t_lows q_t_highs f_t_lows f_t_highs y_t_lows y_t_highs z_t_diagonals) → va_S A s.heap H locs → W p l e (headSpec wc_TR_moveCorners rm_TR_moveCorners).room s m args below meth c H locs 0 0 Q (F0 m 2 ls []))), ∀ (l1 y_t_lows y_t_highs : Nat) (H : Heap) (locs : List Loc) (ls : Array Slot), j_TR_moveCorners_67 ih z_t_lows z_t_highs z_t_diagonals l1 y_t_lows y_t_highs = some r → lv_has ls 2 [(0, .ref q_t), (1, .int (nI l1))] → va_P (dC, dI) vwCl (w_TR K q_t q_t_lows q_t_highs f_t_lows f_t_highs y_t_lows y_t_highs z_t_diagonals) H → va_D A (w_TR K q_t q_t_lows q_t_highs f_t_lows f_t_highs y_t_lows y_t_highs z_t_diagonals) → va_S A s.heap H locs → W p l e (headSpec wc_TR_moveCorners rm_TR_moveCorners).room s m args below meth c H locs 0 0 Q (F0 m 67 ls []) := by
    intro ih IH l1 y_t_lows y_t_highs H locs ls hf hl hP hD hS
    unfold j_TR_moveCorners_67 at hf
    refine lx_iinc (k := 1) (d := 1) hx hb dTR_moveCorners_67 hl rfl (by decide +kernel) (by decide) rfl (fun ls hl => ?_)
    refine lv_goto (tgt := 2) hx hb dTR_moveCorners_70 (by decide) ?_
    have hf := fz_s hf
    exact IH (iA l1 1) y_t_lows y_t_highs _ _ _ hf (lv_sub hl [1, 0] rfl) hP hD hS
  have hb_2 : ∀ (ih : Nat → Nat → Nat → Option (Nat × Nat)) (IH : (∀ (l1 y_t_lows y_t_highs : Nat) (H : Heap) (locs : List Loc) (ls : Array Slot), ih l1 y_t_lows y_t_highs = some r → lv_has ls 2 [(0, .ref q_t), (1, .int (nI l1))] → va_P (dC, dI) vwCl (w_TR K q_t q_t_lows q_t_highs f_t_lows f_t_highs y_t_lows y_t_highs z_t_diagonals) H → va_D A (w_TR K q_t q_t_lows q_t_highs f_t_lows f_t_highs y_t_lows y_t_highs z_t_diagonals) → va_S A s.heap H locs → W p l e (headSpec wc_TR_moveCorners rm_TR_moveCorners).room s m args below meth c H locs 0 0 Q (F0 m 2 ls []))), ∀ (l1 y_t_lows y_t_highs : Nat) (H : Heap) (locs : List Loc) (ls : Array Slot), b_TR_moveCorners_2 ih z_t_lows z_t_highs z_t_diagonals l1 y_t_lows y_t_highs = some r → lv_has ls 2 [(0, .ref q_t), (1, .int (nI l1))] → va_P (dC, dI) vwCl (w_TR K q_t q_t_lows q_t_highs f_t_lows f_t_highs y_t_lows y_t_highs z_t_diagonals) H → va_D A (w_TR K q_t q_t_lows q_t_highs f_t_lows f_t_highs y_t_lows y_t_highs z_t_diagonals) → va_S A s.heap H locs → W p l e (headSpec wc_TR_moveCorners rm_TR_moveCorners).room s m args below meth c H locs 0 0 Q (F0 m 2 ls []) := by
    intro ih IH l1 y_t_lows y_t_highs H locs ls hf hl hP hD hS
    unfold b_TR_moveCorners_2 at hf
    refine lv_iload_n hx hb dTR_moveCorners_2 rfl (lv_at hl 1 rfl) ?_
    refine lv_aload_n hx hb dTR_moveCorners_3 rfl (lv_at hl 0 rfl) ?_
    refine va_get (D := (dC, dI)) (ci := 3) (v := .int (nI z_t_diagonals)) (C := RTR) (T := TTR) (N := 3) hx hb hws uwTR hown hK hP 0 rfl rfl 2 (by decide) (hws _ kf_TR_18) (fun _ h9 => h9) rfl dTR_moveCorners_4 ?_
    refine lx_icmp_ge (tgt := 73) hx hb dTR_moveCorners_7 (by decide) hf (fun hf => ?_) (fun hf => ?_)
    · obtain rfl := Option.some.inj hf
      rw [← hQ]
      exact W.vret hx hb hr (fun t ht hW => ⟨⟨rfl, by rw [ht]; exact hP⟩, hS.F ht⟩) hS.2.2 dTR_moveCorners_73
    · refine lv_aload_n hx hb dTR_moveCorners_10 rfl (lv_at hl 0 rfl) ?_
      refine va_get (D := (dC, dI)) (ci := 3) (v := .ref q_t_highs) (C := RTR) (T := TTR) (N := 3) hx hb hws uwTR hown hK hP 0 rfl rfl 1 (by decide) (hws _ kf_TR_15) (fun _ h9 => h9) rfl dTR_moveCorners_11 ?_
      refine lv_iload_n hx hb dTR_moveCorners_14 rfl (lv_at hl 1 rfl) ?_
      refine lx_iald hx hb hK hP 2 0 rfl rfl (by decide) dTR_moveCorners_15 hf (fun v1 _ hf => ?_)
      refine lv_aload_n hx hb dTR_moveCorners_16 rfl (lv_at hl 0 rfl) ?_
      obtain ⟨q2, hq, hf⟩ := bd_s hf
      refine ct_callr (ws' := w_TR K q_t q_t_lows q_t_highs f_t_lows f_t_highs y_t_lows y_t_highs z_t_diagonals) (va_runV (As := []) (rest := [.int (nI v1)]) ⟨hx, hb, hml, hown, hws⟩ (ct_TR_lastCorner l dC dI K q_t q_t_lows q_t_highs f_t_lows f_t_highs y_t_lows y_t_highs z_t_diagonals q2 hq _) ⟨cb_TR_lastCorner hws rm_TR_lastCorner (hws _ km_TR_61) ⟨Nat.le_of_ble_eq_true rfl, Nat.le_of_ble_eq_true rfl⟩, hws _ ki_TR_lastCorner, hws _ ke_TR_TR_lastCorner_TR_lastCorner⟩ ⟨ct_blind _ _ _, va_recv (ci := 3) (q0 := 0) (q := (RTR, TTR, 3)) hK hP rfl rfl, ct_pre (cs := (w_TR K q_t q_t_lows q_t_highs f_t_lows f_t_highs y_t_lows y_t_highs z_t_diagonals)) hP hD hK [0, 1, 2] (by decide) rfl _⟩ rfl rfl hl.1 rfl (lv_room (Nat.le_of_ble_eq_true rfl)) dTR_moveCorners_17 ⟨Nat.le_of_ble_eq_true rfl, Nat.le_of_ble_eq_true rfl⟩) hP hD hS hA [0, 1, 2] rfl rfl rfl rfl (fun H locs hP hD hS => ?_)
      refine lx_icmp_ne (tgt := 47) hx hb dTR_moveCorners_20 (by decide) hf (fun hf => ?_) (fun hf => ?_)
      · refine lv_aload_n hx hb dTR_moveCorners_47 rfl (lv_at hl 0 rfl) ?_
        refine va_get (D := (dC, dI)) (ci := 3) (v := .ref q_t_lows) (C := RTR) (T := TTR) (N := 3) hx hb hws uwTR hown hK hP 0 rfl rfl 0 (by decide) (hws _ kf_TR_9) (fun _ h9 => h9) rfl dTR_moveCorners_48 ?_
        refine lv_iload_n hx hb dTR_moveCorners_51 rfl (lv_at hl 1 rfl) ?_
        refine lv_dup2_11 hx hb dTR_moveCorners_52 rfl rfl ?_
        refine lx_iald hx hb hK hP 1 0 rfl rfl (by decide) dTR_moveCorners_53 hf (fun v3 _ hf => ?_)
        refine lv_iconst (v := nI 1) hx hb dTR_moveCorners_54 (by decide +kernel) ?_
        refine lx_iadd hx hb dTR_moveCorners_55 ?_
        refine lx_iast hx hb hK hP hD hS 1 0 rfl rfl (by decide) dTR_moveCorners_56 hf (fun hf H locs hP hD hS => ?_)
        have hP : va_P (dC, dI) vwCl (w_TR K q_t q_t_lows q_t_highs f_t_lows f_t_highs (aw y_t_lows l1 (iA v3 1)) y_t_highs z_t_diagonals) H := hP
        have hD : va_D A (w_TR K q_t q_t_lows q_t_highs f_t_lows f_t_highs (aw y_t_lows l1 (iA v3 1)) y_t_highs z_t_diagonals) := hD
        refine lv_aload_n hx hb dTR_moveCorners_57 rfl (lv_at hl 0 rfl) ?_
        refine va_get (D := (dC, dI)) (ci := 3) (v := .ref q_t_highs) (C := RTR) (T := TTR) (N := 3) hx hb hws uwTR hown hK hP 0 rfl rfl 1 (by decide) (hws _ kf_TR_15) (fun _ h9 => h9) rfl dTR_moveCorners_58 ?_
        refine lv_iload_n hx hb dTR_moveCorners_61 rfl (lv_at hl 1 rfl) ?_
        refine lv_dup2_11 hx hb dTR_moveCorners_62 rfl rfl ?_
        refine lx_iald hx hb hK hP 2 0 rfl rfl (by decide) dTR_moveCorners_63 hf (fun v4 _ hf => ?_)
        refine lv_iconst (v := nI 1) hx hb dTR_moveCorners_64 (by decide +kernel) ?_
        refine lx_iadd hx hb dTR_moveCorners_65 ?_
        refine lx_iast hx hb hK hP hD hS 2 0 rfl rfl (by decide) dTR_moveCorners_66 hf (fun hf H locs hP hD hS => ?_)
        have hP : va_P (dC, dI) vwCl (w_TR K q_t q_t_lows q_t_highs f_t_lows f_t_highs (aw y_t_lows l1 (iA v3 1)) (aw y_t_highs l1 (iA v4 1)) z_t_diagonals) H := hP
        have hD : va_D A (w_TR K q_t q_t_lows q_t_highs f_t_lows f_t_highs (aw y_t_lows l1 (iA v3 1)) (aw y_t_highs l1 (iA v4 1)) z_t_diagonals) := hD
        have hf := fz_s hf
        have hf := fz_s hf
        exact hj_67 _ IH l1 (aw y_t_lows l1 (iA v3 1)) (aw y_t_highs l1 (iA v4 1)) _ _ _ hf (lv_sub hl [0, 1] rfl) hP hD hS
      · refine lv_aload_n hx hb dTR_moveCorners_23 rfl (lv_at hl 0 rfl) ?_
        refine va_get (D := (dC, dI)) (ci := 3) (v := .ref q_t_highs) (C := RTR) (T := TTR) (N := 3) hx hb hws uwTR hown hK hP 0 rfl rfl 1 (by decide) (hws _ kf_TR_15) (fun _ h9 => h9) rfl dTR_moveCorners_24 ?_
        refine lv_iload_n hx hb dTR_moveCorners_27 rfl (lv_at hl 1 rfl) ?_
        refine lv_aload_n hx hb dTR_moveCorners_28 rfl (lv_at hl 0 rfl) ?_
        refine va_get (D := (dC, dI)) (ci := 3) (v := .ref q_t_lows) (C := RTR) (T := TTR) (N := 3) hx hb hws uwTR hown hK hP 0 rfl rfl 0 (by decide) (hws _ kf_TR_9) (fun _ h9 => h9) rfl dTR_moveCorners_29 ?_
        refine lv_iload_n hx hb dTR_moveCorners_32 rfl (lv_at hl 1 rfl) ?_
        refine lx_iald hx hb hK hP 1 0 rfl rfl (by decide) dTR_moveCorners_33 hf (fun v7 _ hf => ?_)
        refine lv_iconst (v := nI 1) hx hb dTR_moveCorners_34 (by decide +kernel) ?_
        refine lx_iadd hx hb dTR_moveCorners_35 ?_
        refine lx_iast hx hb hK hP hD hS 2 0 rfl rfl (by decide) dTR_moveCorners_36 hf (fun hf H locs hP hD hS => ?_)
        have hP : va_P (dC, dI) vwCl (w_TR K q_t q_t_lows q_t_highs f_t_lows f_t_highs y_t_lows (aw y_t_highs l1 (iA v7 1)) z_t_diagonals) H := hP
        have hD : va_D A (w_TR K q_t q_t_lows q_t_highs f_t_lows f_t_highs y_t_lows (aw y_t_highs l1 (iA v7 1)) z_t_diagonals) := hD
        refine lv_aload_n hx hb dTR_moveCorners_37 rfl (lv_at hl 0 rfl) ?_
        refine va_get (D := (dC, dI)) (ci := 3) (v := .ref q_t_lows) (C := RTR) (T := TTR) (N := 3) hx hb hws uwTR hown hK hP 0 rfl rfl 0 (by decide) (hws _ kf_TR_9) (fun _ h9 => h9) rfl dTR_moveCorners_38 ?_
        refine lv_iload_n hx hb dTR_moveCorners_41 rfl (lv_at hl 1 rfl) ?_
        refine lv_iconst (v := nI 0) hx hb dTR_moveCorners_42 (by decide +kernel) ?_
        refine lx_iast hx hb hK hP hD hS 1 0 rfl rfl (by decide) dTR_moveCorners_43 hf (fun hf H locs hP hD hS => ?_)
        have hP : va_P (dC, dI) vwCl (w_TR K q_t q_t_lows q_t_highs f_t_lows f_t_highs (aw y_t_lows l1 0) (aw y_t_highs l1 (iA v7 1)) z_t_diagonals) H := hP
        have hD : va_D A (w_TR K q_t q_t_lows q_t_highs f_t_lows f_t_highs (aw y_t_lows l1 0) (aw y_t_highs l1 (iA v7 1)) z_t_diagonals) := hD
        refine lv_goto (tgt := 67) hx hb dTR_moveCorners_44 (by decide) ?_
        have hf := fz_s hf
        have hf := fz_s hf
        exact hj_67 _ IH l1 (aw y_t_lows l1 0) (aw y_t_highs l1 (iA v7 1)) _ _ _ hf (lv_sub hl [0, 1] rfl) hP hD hS
  have key : ∀ k : Nat, (∀ (l1 y_t_lows y_t_highs : Nat) (H : Heap) (locs : List Loc) (ls : Array Slot), fr_TR_moveCorners z_t_lows z_t_highs z_t_diagonals k l1 y_t_lows y_t_highs = some r → lv_has ls 2 [(0, .ref q_t), (1, .int (nI l1))] → va_P (dC, dI) vwCl (w_TR K q_t q_t_lows q_t_highs f_t_lows f_t_highs y_t_lows y_t_highs z_t_diagonals) H → va_D A (w_TR K q_t q_t_lows q_t_highs f_t_lows f_t_highs y_t_lows y_t_highs z_t_diagonals) → va_S A s.heap H locs → W p l e (headSpec wc_TR_moveCorners rm_TR_moveCorners).room s m args below meth c H locs 0 0 Q (F0 m 2 ls [])) := by
    intro k
    induction k with
    | zero => exact fun l1 y_t_lows y_t_highs H locs ls hf _ _ _ _ => no_s (α := Nat × Nat) (r := r) hf
    | succ k IH => exact fun l1 y_t_lows y_t_highs H locs ls hf => hb_2 (fr_TR_moveCorners z_t_lows z_t_highs z_t_diagonals k) IH l1 y_t_lows y_t_highs H locs ls ((frs_TR_moveCorners_2 z_t_lows z_t_highs z_t_diagonals k l1 y_t_lows y_t_highs).symm.trans hf)
  have IH := key 1000000
  have hf : e_TR_moveCorners (fr_TR_moveCorners z_t_lows z_t_highs z_t_diagonals 1000000) z_t_lows z_t_highs z_t_diagonals = some r := hf
  unfold e_TR_moveCorners at hf
  generalize fr_TR_moveCorners z_t_lows z_t_highs z_t_diagonals 1000000 = ih at hf IH
  refine lv_iconst (v := nI 0) hx hb dTR_moveCorners_0 (by decide +kernel) ?_
  refine lv_istore_n hx hb dTR_moveCorners_1 rfl hl (by decide) rfl (fun ls hl => ?_)
  exact IH 0 z_t_lows z_t_highs _ _ _ hf (lv_sub hl [1, 0] rfl) hP hD hS
noncomputable def j_TR_joined_73 (ih : Nat → Nat → Nat → Option (Nat)) (x0 : Nat) (x1 : Nat) (z_t_lows : Nat) (z_t_highs : Nat) (z_t_diagonals : Nat) (l3 : Nat) (l4 : Nat) (l5 : Nat) : Option (Nat) := (fz (iA l5 1) (fun u8 => ih l3 l4 u8))
noncomputable def j_TR_joined_36 (ih : Nat → Nat → Nat → Option (Nat)) (x0 : Nat) (x1 : Nat) (z_t_lows : Nat) (z_t_highs : Nat) (z_t_diagonals : Nat) (l3 : Nat) (l4 : Nat) : Option (Nat) := (ih l3 l4 0)
noncomputable def b_TR_joined_39 (ih : Nat → Nat → Nat → Option (Nat)) (x0 : Nat) (x1 : Nat) (z_t_lows : Nat) (z_t_highs : Nat) (z_t_diagonals : Nat) (l3 : Nat) (l4 : Nat) (l5 : Nat) : Option (Nat) := (bif iLt l5 z_t_diagonals then (rd z_t_lows 9 l5 (fun v6 => (bif iEq v6 l3 then (rd z_t_highs 9 l5 (fun v7 => (bif iEq v7 l4 then some 1 else (j_TR_joined_73 ih x0 x1 z_t_lows z_t_highs z_t_diagonals l3 l4 l5)))) else (j_TR_joined_73 ih x0 x1 z_t_lows z_t_highs z_t_diagonals l3 l4 l5)))) else some 0)
noncomputable def fr_TR_joined (x0 : Nat) (x1 : Nat) (z_t_lows : Nat) (z_t_highs : Nat) (z_t_diagonals : Nat) (k : Nat) : Nat → Nat → Nat → Option (Nat) := Nat.rec (motive := fun _ => Nat → Nat → Nat → Option (Nat)) (fun _ _ _ => none) (fun _ ih a0 a1 a2 => b_TR_joined_39 ih x0 x1 z_t_lows z_t_highs z_t_diagonals a0 a1 a2) k
theorem frs_TR_joined_39 (x0 : Nat) (x1 : Nat) (z_t_lows : Nat) (z_t_highs : Nat) (z_t_diagonals : Nat) (k : Nat) (l3 : Nat) (l4 : Nat) (l5 : Nat) : fr_TR_joined x0 x1 z_t_lows z_t_highs z_t_diagonals (k + 1) l3 l4 l5 = b_TR_joined_39 (fr_TR_joined x0 x1 z_t_lows z_t_highs z_t_diagonals k) x0 x1 z_t_lows z_t_highs z_t_diagonals l3 l4 l5 := rfl
noncomputable def e_TR_joined (ih : Nat → Nat → Nat → Option (Nat)) (x0 : Nat) (x1 : Nat) (z_t_lows : Nat) (z_t_highs : Nat) (z_t_diagonals : Nat) : Option (Nat) := (bif iEq (iS (iMx x0 x1) (iMn x0 x1)) 1 then some 1 else (bif iEq (iMn x0 x1) 0 then (Option.bind (f_TR_lastCorner z_t_diagonals) (fun q3 => (bif iEq (iMx x0 x1) q3 then some 1 else (fz (iMn x0 x1) (fun u4 => fz (iMx x0 x1) (fun u5 => j_TR_joined_36 ih x0 x1 z_t_lows z_t_highs z_t_diagonals u4 u5)))))) else (fz (iMn x0 x1) (fun u1 => fz (iMx x0 x1) (fun u2 => j_TR_joined_36 ih x0 x1 z_t_lows z_t_highs z_t_diagonals u1 u2)))))
noncomputable def f_TR_joined (x0 : Nat) (x1 : Nat) (z_t_lows : Nat) (z_t_highs : Nat) (z_t_diagonals : Nat) : Option (Nat) := e_TR_joined (fr_TR_joined x0 x1 z_t_lows z_t_highs z_t_diagonals 1000000) x0 x1 z_t_lows z_t_highs z_t_diagonals
abbrev rm_TR_joined : Room := { frames := 1, cells := 0, slots := 0, locals := 21 }
set_option maxHeartbeats 4000000 in
set_option maxRecDepth 100000 in
theorem ct_TR_joined (l : Launch) (dC : Nat → ClassId) (dI : Nat → Nat → Nat) (K : Nat → ClassId) (q_t : Nat) (q_t_lows : Nat) (q_t_highs : Nat) (f_t_lows : Nat → Int32) (f_t_highs : Nat → Int32) (x0 : Nat) (x1 : Nat) (z_t_lows : Nat) (z_t_highs : Nat) (z_t_diagonals : Nat) (r : Nat) (hf : f_TR_joined x0 x1 z_t_lows z_t_highs z_t_diagonals = some r) : Ct l (dC, dI) vwCl yTR_joined wc_TR_joined rm_TR_joined (tyK K) [.ref q_t, .int (nI x0), .int (nI x1)] (w_TR K q_t q_t_lows q_t_highs f_t_lows f_t_highs z_t_lows z_t_highs z_t_diagonals) (w_TR K q_t q_t_lows q_t_highs f_t_lows f_t_highs z_t_lows z_t_highs z_t_diagonals) (some (.int (nI r))) := by
  intro sz
  refine Met.ofW (cc := cTR_joined) (maxL := 6) (ret := (some .boolean)) (by decide) rfl ?_
  intro p e s m args below meth c s₁ B hml hv
  obtain ⟨rfl, hsz, hP, hK, hD0⟩ := hv
  have hx := B.exec
  have hb := B.bytes
  have hr := B.returns
  have hts := atoms_spec (ws := wc_TR_joined) B.pre
  have hws : ∀ w ∈ WS, w.before _ s = true := fun w h => hts w (List.mem_cons_of_mem _ h)
  have hown : s.vm.findClass RTR = some m.cls := findClass_of_methodNamed B.named
  have hlocks := B.notSynchronized
  subst hsz
  have hD := hD0.self (sz := s.heap.size)
  generalize hAe : va_A (w_TR K q_t q_t_lows q_t_highs f_t_lows f_t_highs z_t_lows z_t_highs z_t_diagonals) s.heap.size = A at hD ⊢
  have hA : ∀ q : Nat, s.heap.size ≤ q → A q := fun q h => by rw [← hAe]; exact Or.inr h
  have hS : va_S A s.heap s.heap [] := va_S.rf
  have hl := lv_entry ([.ref q_t, .int (nI x0), .int (nI x1)]) (n := 6) (Nat.le_of_ble_eq_true rfl)
  rw [lg_entry_eq]
  generalize (lg_sl ([.ref q_t, .int (nI x0), .int (nI x1)]) ++ List.replicate (6 - (lg_sl ([.ref q_t, .int (nI x0), .int (nI x1)])).length) Slot.unset).toArray = ls at hl ⊢
  have hl : lv_has ls 6 [(0, .ref q_t), (1, .int (nI x0)), (2, .int (nI x1))] := hl
  generalize ([.ref q_t, .int (nI x0), .int (nI x1)] : List Value).toArray = args at hts hws ⊢
  generalize hQ : MQ below _ _ _ _ _ _ = Q
  have hj_73 : ∀ (ih : Nat → Nat → Nat → Option (Nat)) (IH : (∀ (l3 l4 l5 : Nat) (H : Heap) (locs : List Loc) (ls : Array Slot), ih l3 l4 l5 = some r → lv_has ls 6 [(0, .ref q_t), (3, .int (nI l3)), (4, .int (nI l4)), (5, .int (nI l5))] → va_P (dC, dI) vwCl (w_TR K q_t q_t_lows q_t_highs f_t_lows f_t_highs z_t_lows z_t_highs z_t_diagonals) H → va_D A (w_TR K q_t q_t_lows q_t_highs f_t_lows f_t_highs z_t_lows z_t_highs z_t_diagonals) → va_S A s.heap H locs → W p l e (headSpec wc_TR_joined rm_TR_joined).room s m args below meth c H locs 0 0 Q (F0 m 39 ls []))), ∀ (l3 l4 l5 : Nat) (H : Heap) (locs : List Loc) (ls : Array Slot), j_TR_joined_73 ih x0 x1 z_t_lows z_t_highs z_t_diagonals l3 l4 l5 = some r → lv_has ls 6 [(0, .ref q_t), (3, .int (nI l3)), (4, .int (nI l4)), (5, .int (nI l5))] → va_P (dC, dI) vwCl (w_TR K q_t q_t_lows q_t_highs f_t_lows f_t_highs z_t_lows z_t_highs z_t_diagonals) H → va_D A (w_TR K q_t q_t_lows q_t_highs f_t_lows f_t_highs z_t_lows z_t_highs z_t_diagonals) → va_S A s.heap H locs → W p l e (headSpec wc_TR_joined rm_TR_joined).room s m args below meth c H locs 0 0 Q (F0 m 73 ls []) := by
    intro ih IH l3 l4 l5 H locs ls hf hl hP hD hS
    unfold j_TR_joined_73 at hf
    refine lx_iinc (k := 3) (d := 1) hx hb dTR_joined_73 hl rfl (by decide +kernel) (by decide) rfl (fun ls hl => ?_)
    refine lv_goto (tgt := 39) hx hb dTR_joined_76 (by decide) ?_
    have hf := fz_s hf
    exact IH l3 l4 (iA l5 1) _ _ _ hf (lv_sub hl [1, 2, 3, 0] rfl) hP hD hS
  have hj_36 : ∀ (ih : Nat → Nat → Nat → Option (Nat)) (IH : (∀ (l3 l4 l5 : Nat) (H : Heap) (locs : List Loc) (ls : Array Slot), ih l3 l4 l5 = some r → lv_has ls 6 [(0, .ref q_t), (3, .int (nI l3)), (4, .int (nI l4)), (5, .int (nI l5))] → va_P (dC, dI) vwCl (w_TR K q_t q_t_lows q_t_highs f_t_lows f_t_highs z_t_lows z_t_highs z_t_diagonals) H → va_D A (w_TR K q_t q_t_lows q_t_highs f_t_lows f_t_highs z_t_lows z_t_highs z_t_diagonals) → va_S A s.heap H locs → W p l e (headSpec wc_TR_joined rm_TR_joined).room s m args below meth c H locs 0 0 Q (F0 m 39 ls []))), ∀ (l3 l4 : Nat) (H : Heap) (locs : List Loc) (ls : Array Slot), j_TR_joined_36 ih x0 x1 z_t_lows z_t_highs z_t_diagonals l3 l4 = some r → lv_has ls 6 [(0, .ref q_t), (3, .int (nI l3)), (4, .int (nI l4))] → va_P (dC, dI) vwCl (w_TR K q_t q_t_lows q_t_highs f_t_lows f_t_highs z_t_lows z_t_highs z_t_diagonals) H → va_D A (w_TR K q_t q_t_lows q_t_highs f_t_lows f_t_highs z_t_lows z_t_highs z_t_diagonals) → va_S A s.heap H locs → W p l e (headSpec wc_TR_joined rm_TR_joined).room s m args below meth c H locs 0 0 Q (F0 m 36 ls []) := by
    intro ih IH l3 l4 H locs ls hf hl hP hD hS
    unfold j_TR_joined_36 at hf
    refine lv_iconst (v := nI 0) hx hb dTR_joined_36 (by decide +kernel) ?_
    refine lv_istore hx hb dTR_joined_37 hl (by decide) rfl (fun ls hl => ?_)
    exact IH l3 l4 0 _ _ _ hf (lv_sub hl [1, 2, 3, 0] rfl) hP hD hS
  have hb_39 : ∀ (ih : Nat → Nat → Nat → Option (Nat)) (IH : (∀ (l3 l4 l5 : Nat) (H : Heap) (locs : List Loc) (ls : Array Slot), ih l3 l4 l5 = some r → lv_has ls 6 [(0, .ref q_t), (3, .int (nI l3)), (4, .int (nI l4)), (5, .int (nI l5))] → va_P (dC, dI) vwCl (w_TR K q_t q_t_lows q_t_highs f_t_lows f_t_highs z_t_lows z_t_highs z_t_diagonals) H → va_D A (w_TR K q_t q_t_lows q_t_highs f_t_lows f_t_highs z_t_lows z_t_highs z_t_diagonals) → va_S A s.heap H locs → W p l e (headSpec wc_TR_joined rm_TR_joined).room s m args below meth c H locs 0 0 Q (F0 m 39 ls []))), ∀ (l3 l4 l5 : Nat) (H : Heap) (locs : List Loc) (ls : Array Slot), b_TR_joined_39 ih x0 x1 z_t_lows z_t_highs z_t_diagonals l3 l4 l5 = some r → lv_has ls 6 [(0, .ref q_t), (3, .int (nI l3)), (4, .int (nI l4)), (5, .int (nI l5))] → va_P (dC, dI) vwCl (w_TR K q_t q_t_lows q_t_highs f_t_lows f_t_highs z_t_lows z_t_highs z_t_diagonals) H → va_D A (w_TR K q_t q_t_lows q_t_highs f_t_lows f_t_highs z_t_lows z_t_highs z_t_diagonals) → va_S A s.heap H locs → W p l e (headSpec wc_TR_joined rm_TR_joined).room s m args below meth c H locs 0 0 Q (F0 m 39 ls []) := by
    intro ih IH l3 l4 l5 H locs ls hf hl hP hD hS
    unfold b_TR_joined_39 at hf
    refine lv_iload hx hb dTR_joined_39 (lv_at hl 3 rfl) ?_
    refine lv_aload_n hx hb dTR_joined_41 rfl (lv_at hl 0 rfl) ?_
    refine va_get (D := (dC, dI)) (ci := 3) (v := .int (nI z_t_diagonals)) (C := RTR) (T := TTR) (N := 3) hx hb hws uwTR hown hK hP 0 rfl rfl 2 (by decide) (hws _ kf_TR_18) (fun _ h9 => h9) rfl dTR_joined_42 ?_
    refine lx_icmp_ge (tgt := 79) hx hb dTR_joined_45 (by decide) hf (fun hf => ?_) (fun hf => ?_)
    · refine lv_iconst (v := nI 0) hx hb dTR_joined_79 (by decide +kernel) ?_
      obtain rfl := Option.some.inj hf
      rw [← hQ]
      exact W.zret (ty := .boolean) (v := nI 0) hx hb hr (by decide +kernel) (fun t ht hW => ⟨⟨rfl, by rw [ht]; exact hP⟩, hS.F ht⟩) hS.2.2 dTR_joined_80
    · refine lv_aload_n hx hb dTR_joined_48 rfl (lv_at hl 0 rfl) ?_
      refine va_get (D := (dC, dI)) (ci := 3) (v := .ref q_t_lows) (C := RTR) (T := TTR) (N := 3) hx hb hws uwTR hown hK hP 0 rfl rfl 0 (by decide) (hws _ kf_TR_9) (fun _ h9 => h9) rfl dTR_joined_49 ?_
      refine lv_iload hx hb dTR_joined_52 (lv_at hl 3 rfl) ?_
      refine lx_iald hx hb hK hP 1 0 rfl rfl (by decide) dTR_joined_54 hf (fun v6 _ hf => ?_)
      refine lv_iload_n hx hb dTR_joined_55 rfl (lv_at hl 1 rfl) ?_
      refine lx_icmp_ne (tgt := 73) hx hb dTR_joined_56 (by decide) hf (fun hf => ?_) (fun hf => ?_)
      · exact hj_73 _ IH l3 l4 l5 _ _ _ hf (lv_sub hl [0, 1, 2, 3] rfl) hP hD hS
      · refine lv_aload_n hx hb dTR_joined_59 rfl (lv_at hl 0 rfl) ?_
        refine va_get (D := (dC, dI)) (ci := 3) (v := .ref q_t_highs) (C := RTR) (T := TTR) (N := 3) hx hb hws uwTR hown hK hP 0 rfl rfl 1 (by decide) (hws _ kf_TR_15) (fun _ h9 => h9) rfl dTR_joined_60 ?_
        refine lv_iload hx hb dTR_joined_63 (lv_at hl 3 rfl) ?_
        refine lx_iald hx hb hK hP 2 0 rfl rfl (by decide) dTR_joined_65 hf (fun v7 _ hf => ?_)
        refine lv_iload hx hb dTR_joined_66 (lv_at hl 2 rfl) ?_
        refine lx_icmp_ne (tgt := 73) hx hb dTR_joined_68 (by decide) hf (fun hf => ?_) (fun hf => ?_)
        · exact hj_73 _ IH l3 l4 l5 _ _ _ hf (lv_sub hl [0, 1, 2, 3] rfl) hP hD hS
        · refine lv_iconst (v := nI 1) hx hb dTR_joined_71 (by decide +kernel) ?_
          obtain rfl := Option.some.inj hf
          rw [← hQ]
          exact W.zret (ty := .boolean) (v := nI 1) hx hb hr (by decide +kernel) (fun t ht hW => ⟨⟨rfl, by rw [ht]; exact hP⟩, hS.F ht⟩) hS.2.2 dTR_joined_72
  have key : ∀ k : Nat, (∀ (l3 l4 l5 : Nat) (H : Heap) (locs : List Loc) (ls : Array Slot), fr_TR_joined x0 x1 z_t_lows z_t_highs z_t_diagonals k l3 l4 l5 = some r → lv_has ls 6 [(0, .ref q_t), (3, .int (nI l3)), (4, .int (nI l4)), (5, .int (nI l5))] → va_P (dC, dI) vwCl (w_TR K q_t q_t_lows q_t_highs f_t_lows f_t_highs z_t_lows z_t_highs z_t_diagonals) H → va_D A (w_TR K q_t q_t_lows q_t_highs f_t_lows f_t_highs z_t_lows z_t_highs z_t_diagonals) → va_S A s.heap H locs → W p l e (headSpec wc_TR_joined rm_TR_joined).room s m args below meth c H locs 0 0 Q (F0 m 39 ls [])) := by
    intro k
    induction k with
    | zero => exact fun l3 l4 l5 H locs ls hf _ _ _ _ => no_s (α := Nat) (r := r) hf
    | succ k IH => exact fun l3 l4 l5 H locs ls hf => hb_39 (fr_TR_joined x0 x1 z_t_lows z_t_highs z_t_diagonals k) IH l3 l4 l5 H locs ls ((frs_TR_joined_39 x0 x1 z_t_lows z_t_highs z_t_diagonals k l3 l4 l5).symm.trans hf)
  have IH := key 1000000
  have hf : e_TR_joined (fr_TR_joined x0 x1 z_t_lows z_t_highs z_t_diagonals 1000000) x0 x1 z_t_lows z_t_highs z_t_diagonals = some r := hf
  unfold e_TR_joined at hf
  generalize fr_TR_joined x0 x1 z_t_lows z_t_highs z_t_diagonals 1000000 = ih at hf IH
  refine lv_iload_n hx hb dTR_joined_0 rfl (lv_at hl 1 rfl) ?_
  refine lv_iload_n hx hb dTR_joined_1 rfl (lv_at hl 2 rfl) ?_
  refine lx_mmin hx hb (hml.trans hl.1.symm) hown (hws _ km_TR_68) (hws _ ks_MA_min) (hws _ kz_MA) (hws _ kc_MA_min) (Nat.le_of_ble_eq_true rfl) (Nat.le_of_ble_eq_true rfl) (Nat.le_of_ble_eq_true rfl) (Nat.le_of_ble_eq_true rfl) dTR_joined_2 ?_
  refine lv_istore_n hx hb dTR_joined_5 rfl hl (by decide) rfl (fun ls hl => ?_)
  refine lv_iload_n hx hb dTR_joined_6 rfl (lv_at hl 2 rfl) ?_
  refine lv_iload_n hx hb dTR_joined_7 rfl (lv_at hl 3 rfl) ?_
  refine lx_mmax hx hb (hml.trans hl.1.symm) hown (hws _ km_TR_74) (hws _ ks_MA_max) (hws _ kz_MA) (hws _ kc_MA_max) (Nat.le_of_ble_eq_true rfl) (Nat.le_of_ble_eq_true rfl) (Nat.le_of_ble_eq_true rfl) (Nat.le_of_ble_eq_true rfl) dTR_joined_8 ?_
  refine lv_istore hx hb dTR_joined_11 hl (by decide) rfl (fun ls hl => ?_)
  refine lv_iload hx hb dTR_joined_13 (lv_at hl 0 rfl) ?_
  refine lv_iload_n hx hb dTR_joined_15 rfl (lv_at hl 1 rfl) ?_
  refine lx_isub hx hb dTR_joined_16 ?_
  refine lv_iconst (v := nI 1) hx hb dTR_joined_17 (by decide +kernel) ?_
  refine lx_icmp_eq (tgt := 34) hx hb dTR_joined_18 (by decide) hf (fun hf => ?_) (fun hf => ?_)
  · refine lv_iconst (v := nI 1) hx hb dTR_joined_34 (by decide +kernel) ?_
    obtain rfl := Option.some.inj hf
    rw [← hQ]
    exact W.zret (ty := .boolean) (v := nI 1) hx hb hr (by decide +kernel) (fun t ht hW => ⟨⟨rfl, by rw [ht]; exact hP⟩, hS.F ht⟩) hS.2.2 dTR_joined_35
  · refine lv_iload_n hx hb dTR_joined_21 rfl (lv_at hl 1 rfl) ?_
    refine lx_if_ne (tgt := 36) hx hb dTR_joined_22 (by decide) hf (fun hf => ?_) (fun hf => ?_)
    · have hf := fz_s hf
      have hf := fz_s hf
      exact hj_36 _ IH (iMn x0 x1) (iMx x0 x1) _ _ _ hf (lv_sub hl [2, 1, 0] rfl) hP hD hS
    · refine lv_iload hx hb dTR_joined_25 (lv_at hl 0 rfl) ?_
      refine lv_aload_n hx hb dTR_joined_27 rfl (lv_at hl 2 rfl) ?_
      obtain ⟨q3, hq, hf⟩ := bd_s hf
      refine ct_callr (ws' := w_TR K q_t q_t_lows q_t_highs f_t_lows f_t_highs z_t_lows z_t_highs z_t_diagonals) (va_runV (As := []) (rest := [.int (nI (iMx x0 x1))]) ⟨hx, hb, hml, hown, hws⟩ (ct_TR_lastCorner l dC dI K q_t q_t_lows q_t_highs f_t_lows f_t_highs z_t_lows z_t_highs z_t_diagonals q3 hq _) ⟨cb_TR_lastCorner hws rm_TR_lastCorner (hws _ km_TR_61) ⟨Nat.le_of_ble_eq_true rfl, Nat.le_of_ble_eq_true rfl⟩, hws _ ki_TR_lastCorner, hws _ ke_TR_TR_lastCorner_TR_lastCorner⟩ ⟨ct_blind _ _ _, va_recv (ci := 3) (q0 := 0) (q := (RTR, TTR, 3)) hK hP rfl rfl, ct_pre (cs := (w_TR K q_t q_t_lows q_t_highs f_t_lows f_t_highs z_t_lows z_t_highs z_t_diagonals)) hP hD hK [0, 1, 2] (by decide) rfl _⟩ rfl rfl hl.1 rfl (lv_room (Nat.le_of_ble_eq_true rfl)) dTR_joined_28 ⟨Nat.le_of_ble_eq_true rfl, Nat.le_of_ble_eq_true rfl⟩) hP hD hS hA [0, 1, 2] rfl rfl rfl rfl (fun H locs hP hD hS => ?_)
      refine lx_icmp_ne (tgt := 36) hx hb dTR_joined_31 (by decide) hf (fun hf => ?_) (fun hf => ?_)
      · have hf := fz_s hf
        have hf := fz_s hf
        exact hj_36 _ IH (iMn x0 x1) (iMx x0 x1) _ _ _ hf (lv_sub hl [2, 1, 0] rfl) hP hD hS
      · refine lv_iconst (v := nI 1) hx hb dTR_joined_34 (by decide +kernel) ?_
        obtain rfl := Option.some.inj hf
        rw [← hQ]
        exact W.zret (ty := .boolean) (v := nI 1) hx hb hr (by decide +kernel) (fun t ht hW => ⟨⟨rfl, by rw [ht]; exact hP⟩, hS.F ht⟩) hS.2.2 dTR_joined_35
noncomputable def j_TR_exchange_61 (ih : Nat → Nat → Nat → Nat → Nat → Nat → Option (Nat × Nat)) (x0 : Nat) (z_t_lows : Nat) (z_t_highs : Nat) (z_t_diagonals : Nat) (l1 : Nat) (l2 : Nat) (l3 : Nat) (l4 : Nat) (y_t_lows : Nat) (y_t_highs : Nat) : Option (Nat × Nat) := (fz (iA l4 1) (fun u6 => ih l1 l2 l3 u6 y_t_lows y_t_highs))
noncomputable def j_TR_exchange_57 (ih : Nat → Nat → Nat → Nat → Nat → Nat → Option (Nat × Nat)) (x0 : Nat) (z_t_lows : Nat) (z_t_highs : Nat) (z_t_diagonals : Nat) (l1 : Nat) (l4 : Nat) (s0 : Nat) (y_t_lows : Nat) (y_t_highs : Nat) : Option (Nat × Nat) := (j_TR_exchange_61 ih x0 z_t_lows z_t_highs z_t_diagonals l1 s0 l4 l4 y_t_lows y_t_highs)
noncomputable def b_TR_exchange_7 (ih : Nat → Nat → Nat → Nat → Nat → Nat → Option (Nat × Nat)) (x0 : Nat) (z_t_lows : Nat) (z_t_highs : Nat) (z_t_diagonals : Nat) (l1 : Nat) (l2 : Nat) (l3 : Nat) (l4 : Nat) (y_t_lows : Nat) (y_t_highs : Nat) : Option (Nat × Nat) := (Option.bind (f_TR_lastCorner z_t_diagonals) (fun q1 => (bif iLt q1 l4 then (bif Nat.blt l1 9 then (bif Nat.blt l1 9 then some (aw y_t_lows l1 l2, aw y_t_highs l1 l3) else none) else none) else (rd y_t_lows 9 l1 (fun v2 => (Option.bind (f_TR_joined l4 v2 y_t_lows y_t_highs z_t_diagonals) (fun q3 => (bif iEq q3 0 then (j_TR_exchange_61 ih x0 z_t_lows z_t_highs z_t_diagonals l1 l2 l3 l4 y_t_lows y_t_highs) else (rd y_t_highs 9 l1 (fun v4 => (Option.bind (f_TR_joined l4 v4 y_t_lows y_t_highs z_t_diagonals) (fun q5 => (bif iEq q5 0 then (j_TR_exchange_61 ih x0 z_t_lows z_t_highs z_t_diagonals l1 l2 l3 l4 y_t_lows y_t_highs) else (bif iEq l2 4294967295 then (j_TR_exchange_57 ih x0 z_t_lows z_t_highs z_t_diagonals l1 l4 l4 y_t_lows y_t_highs) else (j_TR_exchange_57 ih x0 z_t_lows z_t_highs z_t_diagonals l1 l4 l2 y_t_lows y_t_highs)))))))))))))))
noncomputable def fr_TR_exchange (x0 : Nat) (z_t_lows : Nat) (z_t_highs : Nat) (z_t_diagonals : Nat) (k : Nat) : Nat → Nat → Nat → Nat → Nat → Nat → Option (Nat × Nat) := Nat.rec (motive := fun _ => Nat → Nat → Nat → Nat → Nat → Nat → Option (Nat × Nat)) (fun _ _ _ _ _ _ => none) (fun _ ih a0 a1 a2 a3 a4 a5 => b_TR_exchange_7 ih x0 z_t_lows z_t_highs z_t_diagonals a0 a1 a2 a3 a4 a5) k
theorem frs_TR_exchange_7 (x0 : Nat) (z_t_lows : Nat) (z_t_highs : Nat) (z_t_diagonals : Nat) (k : Nat) (l1 : Nat) (l2 : Nat) (l3 : Nat) (l4 : Nat) (y_t_lows : Nat) (y_t_highs : Nat) : fr_TR_exchange x0 z_t_lows z_t_highs z_t_diagonals (k + 1) l1 l2 l3 l4 y_t_lows y_t_highs = b_TR_exchange_7 (fr_TR_exchange x0 z_t_lows z_t_highs z_t_diagonals k) x0 z_t_lows z_t_highs z_t_diagonals l1 l2 l3 l4 y_t_lows y_t_highs := rfl
noncomputable def e_TR_exchange (ih : Nat → Nat → Nat → Nat → Nat → Nat → Option (Nat × Nat)) (x0 : Nat) (z_t_lows : Nat) (z_t_highs : Nat) (z_t_diagonals : Nat) : Option (Nat × Nat) := (ih x0 4294967295 4294967295 0 z_t_lows z_t_highs)
noncomputable def f_TR_exchange (x0 : Nat) (z_t_lows : Nat) (z_t_highs : Nat) (z_t_diagonals : Nat) : Option (Nat × Nat) := e_TR_exchange (fr_TR_exchange x0 z_t_lows z_t_highs z_t_diagonals 1000000) x0 z_t_lows z_t_highs z_t_diagonals
abbrev rm_TR_exchange : Room := { frames := 2, cells := 0, slots := 0, locals := 46 }
set_option maxHeartbeats 4000000 in
set_option maxRecDepth 100000 in
theorem ct_TR_exchange (l : Launch) (dC : Nat → ClassId) (dI : Nat → Nat → Nat) (K : Nat → ClassId) (q_t : Nat) (q_t_lows : Nat) (q_t_highs : Nat) (f_t_lows : Nat → Int32) (f_t_highs : Nat → Int32) (x0 : Nat) (z_t_lows : Nat) (z_t_highs : Nat) (z_t_diagonals : Nat) (r : Nat × Nat) (hf : f_TR_exchange x0 z_t_lows z_t_highs z_t_diagonals = some r) : Ct l (dC, dI) vwCl yTR_exchange wc_TR_exchange rm_TR_exchange (tyK K) [.ref q_t, .int (nI x0)] (w_TR K q_t q_t_lows q_t_highs f_t_lows f_t_highs z_t_lows z_t_highs z_t_diagonals) (w_TR K q_t q_t_lows q_t_highs f_t_lows f_t_highs r.1 r.2 z_t_diagonals) none := by
  intro sz
  refine Met.ofW (cc := cTR_exchange) (maxL := 5) (ret := none) (by decide) rfl ?_
  intro p e s m args below meth c s₁ B hml hv
  obtain ⟨rfl, hsz, hP, hK, hD0⟩ := hv
  have hx := B.exec
  have hb := B.bytes
  have hr := B.returns
  have hts := atoms_spec (ws := wc_TR_exchange) B.pre
  have hws : ∀ w ∈ WS, w.before _ s = true := fun w h => hts w (List.mem_cons_of_mem _ h)
  have hown : s.vm.findClass RTR = some m.cls := findClass_of_methodNamed B.named
  have hlocks := B.notSynchronized
  subst hsz
  have hD := hD0.self (sz := s.heap.size)
  generalize hAe : va_A (w_TR K q_t q_t_lows q_t_highs f_t_lows f_t_highs z_t_lows z_t_highs z_t_diagonals) s.heap.size = A at hD ⊢
  have hA : ∀ q : Nat, s.heap.size ≤ q → A q := fun q h => by rw [← hAe]; exact Or.inr h
  have hS : va_S A s.heap s.heap [] := va_S.rf
  have hl := lv_entry ([.ref q_t, .int (nI x0)]) (n := 5) (Nat.le_of_ble_eq_true rfl)
  rw [lg_entry_eq]
  generalize (lg_sl ([.ref q_t, .int (nI x0)]) ++ List.replicate (5 - (lg_sl ([.ref q_t, .int (nI x0)])).length) Slot.unset).toArray = ls at hl ⊢
  have hl : lv_has ls 5 [(0, .ref q_t), (1, .int (nI x0))] := hl
  generalize ([.ref q_t, .int (nI x0)] : List Value).toArray = args at hts hws ⊢
  generalize hQ : MQ below _ _ _ _ _ _ = Q
  have hj_61 : ∀ (ih : Nat → Nat → Nat → Nat → Nat → Nat → Option (Nat × Nat)) (IH : (∀ (l1 l2 l3 l4 y_t_lows y_t_highs : Nat) (H : Heap) (locs : List Loc) (ls : Array Slot), ih l1 l2 l3 l4 y_t_lows y_t_highs = some r → lv_has ls 5 [(0, .ref q_t), (1, .int (nI l1)), (2, .int (nI l2)), (3, .int (nI l3)), (4, .int (nI l4))] → va_P (dC, dI) vwCl (w_TR K q_t q_t_lows q_t_highs f_t_lows f_t_highs y_t_lows y_t_highs z_t_diagonals) H → va_D A (w_TR K q_t q_t_lows q_t_highs f_t_lows f_t_highs y_t_lows y_t_highs z_t_diagonals) → va_S A s.heap H locs → W p l e (headSpec wc_TR_exchange rm_TR_exchange).room s m args below meth c H locs 0 0 Q (F0 m 7 ls []))), ∀ (l1 l2 l3 l4 y_t_lows y_t_highs : Nat) (H : Heap) (locs : List Loc) (ls : Array Slot), j_TR_exchange_61 ih x0 z_t_lows z_t_highs z_t_diagonals l1 l2 l3 l4 y_t_lows y_t_highs = some r → lv_has ls 5 [(0, .ref q_t), (1, .int (nI l1)), (2, .int (nI l2)), (3, .int (nI l3)), (4, .int (nI l4))] → va_P (dC, dI) vwCl (w_TR K q_t q_t_lows q_t_highs f_t_lows f_t_highs y_t_lows y_t_highs z_t_diagonals) H → va_D A (w_TR K q_t q_t_lows q_t_highs f_t_lows f_t_highs y_t_lows y_t_highs z_t_diagonals) → va_S A s.heap H locs → W p l e (headSpec wc_TR_exchange rm_TR_exchange).room s m args below meth c H locs 0 0 Q (F0 m 61 ls []) := by
    intro ih IH l1 l2 l3 l4 y_t_lows y_t_highs H locs ls hf hl hP hD hS
    unfold j_TR_exchange_61 at hf
    refine lx_iinc (k := 4) (d := 1) hx hb dTR_exchange_61 hl rfl (by decide +kernel) (by decide) rfl (fun ls hl => ?_)
    refine lv_goto (tgt := 7) hx hb dTR_exchange_64 (by decide) ?_
    have hf := fz_s hf
    exact IH l1 l2 l3 (iA l4 1) y_t_lows y_t_highs _ _ _ hf (lv_sub hl [1, 2, 3, 4, 0] rfl) hP hD hS
  have hj_57 : ∀ (ih : Nat → Nat → Nat → Nat → Nat → Nat → Option (Nat × Nat)) (IH : (∀ (l1 l2 l3 l4 y_t_lows y_t_highs : Nat) (H : Heap) (locs : List Loc) (ls : Array Slot), ih l1 l2 l3 l4 y_t_lows y_t_highs = some r → lv_has ls 5 [(0, .ref q_t), (1, .int (nI l1)), (2, .int (nI l2)), (3, .int (nI l3)), (4, .int (nI l4))] → va_P (dC, dI) vwCl (w_TR K q_t q_t_lows q_t_highs f_t_lows f_t_highs y_t_lows y_t_highs z_t_diagonals) H → va_D A (w_TR K q_t q_t_lows q_t_highs f_t_lows f_t_highs y_t_lows y_t_highs z_t_diagonals) → va_S A s.heap H locs → W p l e (headSpec wc_TR_exchange rm_TR_exchange).room s m args below meth c H locs 0 0 Q (F0 m 7 ls []))), ∀ (l1 l4 s0 y_t_lows y_t_highs : Nat) (H : Heap) (locs : List Loc) (ls : Array Slot), j_TR_exchange_57 ih x0 z_t_lows z_t_highs z_t_diagonals l1 l4 s0 y_t_lows y_t_highs = some r → lv_has ls 5 [(0, .ref q_t), (1, .int (nI l1)), (4, .int (nI l4))] → va_P (dC, dI) vwCl (w_TR K q_t q_t_lows q_t_highs f_t_lows f_t_highs y_t_lows y_t_highs z_t_diagonals) H → va_D A (w_TR K q_t q_t_lows q_t_highs f_t_lows f_t_highs y_t_lows y_t_highs z_t_diagonals) → va_S A s.heap H locs → W p l e (headSpec wc_TR_exchange rm_TR_exchange).room s m args below meth c H locs 0 0 Q (F0 m 57 ls [.int (nI s0)]) := by
    intro ih IH l1 l4 s0 y_t_lows y_t_highs H locs ls hf hl hP hD hS
    unfold j_TR_exchange_57 at hf
    refine lv_istore_n hx hb dTR_exchange_57 rfl hl (by decide) rfl (fun ls hl => ?_)
    refine lv_iload hx hb dTR_exchange_58 (lv_at hl 3 rfl) ?_
    refine lv_istore_n hx hb dTR_exchange_60 rfl hl (by decide) rfl (fun ls hl => ?_)
    exact hj_61 _ IH l1 s0 l4 l4 y_t_lows y_t_highs _ _ _ hf (lv_sub hl [2, 3, 1, 0, 4] rfl) hP hD hS
  have hb_7 : ∀ (ih : Nat → Nat → Nat → Nat → Nat → Nat → Option (Nat × Nat)) (IH : (∀ (l1 l2 l3 l4 y_t_lows y_t_highs : Nat) (H : Heap) (locs : List Loc) (ls : Array Slot), ih l1 l2 l3 l4 y_t_lows y_t_highs = some r → lv_has ls 5 [(0, .ref q_t), (1, .int (nI l1)), (2, .int (nI l2)), (3, .int (nI l3)), (4, .int (nI l4))] → va_P (dC, dI) vwCl (w_TR K q_t q_t_lows q_t_highs f_t_lows f_t_highs y_t_lows y_t_highs z_t_diagonals) H → va_D A (w_TR K q_t q_t_lows q_t_highs f_t_lows f_t_highs y_t_lows y_t_highs z_t_diagonals) → va_S A s.heap H locs → W p l e (headSpec wc_TR_exchange rm_TR_exchange).room s m args below meth c H locs 0 0 Q (F0 m 7 ls []))), ∀ (l1 l2 l3 l4 y_t_lows y_t_highs : Nat) (H : Heap) (locs : List Loc) (ls : Array Slot), b_TR_exchange_7 ih x0 z_t_lows z_t_highs z_t_diagonals l1 l2 l3 l4 y_t_lows y_t_highs = some r → lv_has ls 5 [(0, .ref q_t), (1, .int (nI l1)), (2, .int (nI l2)), (3, .int (nI l3)), (4, .int (nI l4))] → va_P (dC, dI) vwCl (w_TR K q_t q_t_lows q_t_highs f_t_lows f_t_highs y_t_lows y_t_highs z_t_diagonals) H → va_D A (w_TR K q_t q_t_lows q_t_highs f_t_lows f_t_highs y_t_lows y_t_highs z_t_diagonals) → va_S A s.heap H locs → W p l e (headSpec wc_TR_exchange rm_TR_exchange).room s m args below meth c H locs 0 0 Q (F0 m 7 ls []) := by
    intro ih IH l1 l2 l3 l4 y_t_lows y_t_highs H locs ls hf hl hP hD hS
    unfold b_TR_exchange_7 at hf
    refine lv_iload hx hb dTR_exchange_7 (lv_at hl 4 rfl) ?_
    refine lv_aload_n hx hb dTR_exchange_9 rfl (lv_at hl 0 rfl) ?_
    obtain ⟨q1, hq, hf⟩ := bd_s hf
    refine ct_callr (ws' := w_TR K q_t q_t_lows q_t_highs f_t_lows f_t_highs y_t_lows y_t_highs z_t_diagonals) (va_runV (As := []) (rest := [.int (nI l4)]) ⟨hx, hb, hml, hown, hws⟩ (ct_TR_lastCorner l dC dI K q_t q_t_lows q_t_highs f_t_lows f_t_highs y_t_lows y_t_highs z_t_diagonals q1 hq _) ⟨cb_TR_lastCorner hws rm_TR_lastCorner (hws _ km_TR_61) ⟨Nat.le_of_ble_eq_true rfl, Nat.le_of_ble_eq_true rfl⟩, hws _ ki_TR_lastCorner, hws _ ke_TR_TR_lastCorner_TR_lastCorner⟩ ⟨ct_blind _ _ _, va_recv (ci := 3) (q0 := 0) (q := (RTR, TTR, 3)) hK hP rfl rfl, ct_pre (cs := (w_TR K q_t q_t_lows q_t_highs f_t_lows f_t_highs y_t_lows y_t_highs z_t_diagonals)) hP hD hK [0, 1, 2] (by decide) rfl _⟩ rfl rfl hl.1 rfl (lv_room (Nat.le_of_ble_eq_true rfl)) dTR_exchange_10 ⟨Nat.le_of_ble_eq_true rfl, Nat.le_of_ble_eq_true rfl⟩) hP hD hS hA [0, 1, 2] rfl rfl rfl rfl (fun H locs hP hD hS => ?_)
    refine lx_icmp_gt (tgt := 67) hx hb dTR_exchange_13 (by decide) hf (fun hf => ?_) (fun hf => ?_)
    · refine lv_aload_n hx hb dTR_exchange_67 rfl (lv_at hl 0 rfl) ?_
      refine va_get (D := (dC, dI)) (ci := 3) (v := .ref q_t_lows) (C := RTR) (T := TTR) (N := 3) hx hb hws uwTR hown hK hP 0 rfl rfl 0 (by decide) (hws _ kf_TR_9) (fun _ h9 => h9) rfl dTR_exchange_68 ?_
      refine lv_iload_n hx hb dTR_exchange_71 rfl (lv_at hl 1 rfl) ?_
      refine lv_iload_n hx hb dTR_exchange_72 rfl (lv_at hl 2 rfl) ?_
      refine lx_iast hx hb hK hP hD hS 1 0 rfl rfl (by decide) dTR_exchange_73 hf (fun hf H locs hP hD hS => ?_)
      have hP : va_P (dC, dI) vwCl (w_TR K q_t q_t_lows q_t_highs f_t_lows f_t_highs (aw y_t_lows l1 l2) y_t_highs z_t_diagonals) H := hP
      have hD : va_D A (w_TR K q_t q_t_lows q_t_highs f_t_lows f_t_highs (aw y_t_lows l1 l2) y_t_highs z_t_diagonals) := hD
      refine lv_aload_n hx hb dTR_exchange_74 rfl (lv_at hl 0 rfl) ?_
      refine va_get (D := (dC, dI)) (ci := 3) (v := .ref q_t_highs) (C := RTR) (T := TTR) (N := 3) hx hb hws uwTR hown hK hP 0 rfl rfl 1 (by decide) (hws _ kf_TR_15) (fun _ h9 => h9) rfl dTR_exchange_75 ?_
      refine lv_iload_n hx hb dTR_exchange_78 rfl (lv_at hl 1 rfl) ?_
      refine lv_iload_n hx hb dTR_exchange_79 rfl (lv_at hl 3 rfl) ?_
      refine lx_iast hx hb hK hP hD hS 2 0 rfl rfl (by decide) dTR_exchange_80 hf (fun hf H locs hP hD hS => ?_)
      have hP : va_P (dC, dI) vwCl (w_TR K q_t q_t_lows q_t_highs f_t_lows f_t_highs (aw y_t_lows l1 l2) (aw y_t_highs l1 l3) z_t_diagonals) H := hP
      have hD : va_D A (w_TR K q_t q_t_lows q_t_highs f_t_lows f_t_highs (aw y_t_lows l1 l2) (aw y_t_highs l1 l3) z_t_diagonals) := hD
      obtain rfl := Option.some.inj hf
      rw [← hQ]
      exact W.vret hx hb hr (fun t ht hW => ⟨⟨rfl, by rw [ht]; exact hP⟩, hS.F ht⟩) hS.2.2 dTR_exchange_81
    · refine lv_aload_n hx hb dTR_exchange_16 rfl (lv_at hl 0 rfl) ?_
      refine lv_iload hx hb dTR_exchange_17 (lv_at hl 4 rfl) ?_
      refine lv_aload_n hx hb dTR_exchange_19 rfl (lv_at hl 0 rfl) ?_
      refine va_get (D := (dC, dI)) (ci := 3) (v := .ref q_t_lows) (C := RTR) (T := TTR) (N := 3) hx hb hws uwTR hown hK hP 0 rfl rfl 0 (by decide) (hws _ kf_TR_9) (fun _ h9 => h9) rfl dTR_exchange_20 ?_
      refine lv_iload_n hx hb dTR_exchange_23 rfl (lv_at hl 1 rfl) ?_
      refine lx_iald hx hb hK hP 1 0 rfl rfl (by decide) dTR_exchange_24 hf (fun v2 _ hf => ?_)
      obtain ⟨q3, hq, hf⟩ := bd_s hf
      refine ct_callr (ws' := w_TR K q_t q_t_lows q_t_highs f_t_lows f_t_highs y_t_lows y_t_highs z_t_diagonals) (va_runV (As := [.int (nI l4), .int (nI v2)]) (rest := []) ⟨hx, hb, hml, hown, hws⟩ (ct_TR_joined l dC dI K q_t q_t_lows q_t_highs f_t_lows f_t_highs l4 v2 y_t_lows y_t_highs z_t_diagonals q3 hq _) ⟨cb_TR_joined hws rm_TR_joined (hws _ km_TR_64) ⟨Nat.le_of_ble_eq_true rfl, Nat.le_of_ble_eq_true rfl⟩, hws _ ki_TR_joined, hws _ ke_TR_TR_joined_TR_joined⟩ ⟨ct_blind _ _ _, va_recv (ci := 3) (q0 := 0) (q := (RTR, TTR, 3)) hK hP rfl rfl, ct_pre (cs := (w_TR K q_t q_t_lows q_t_highs f_t_lows f_t_highs y_t_lows y_t_highs z_t_diagonals)) hP hD hK [0, 1, 2] (by decide) rfl _⟩ rfl rfl hl.1 rfl (lv_room (Nat.le_of_ble_eq_true rfl)) dTR_exchange_25 ⟨Nat.le_of_ble_eq_true rfl, Nat.le_of_ble_eq_true rfl⟩) hP hD hS hA [0, 1, 2] rfl rfl rfl rfl (fun H locs hP hD hS => ?_)
      refine lx_if_eq (tgt := 61) hx hb dTR_exchange_28 (by decide) hf (fun hf => ?_) (fun hf => ?_)
      · exact hj_61 _ IH l1 l2 l3 l4 y_t_lows y_t_highs _ _ _ hf (lv_sub hl [0, 1, 2, 3, 4] rfl) hP hD hS
      · refine lv_aload_n hx hb dTR_exchange_31 rfl (lv_at hl 0 rfl) ?_
        refine lv_iload hx hb dTR_exchange_32 (lv_at hl 4 rfl) ?_
        refine lv_aload_n hx hb dTR_exchange_34 rfl (lv_at hl 0 rfl) ?_
        refine va_get (D := (dC, dI)) (ci := 3) (v := .ref q_t_highs) (C := RTR) (T := TTR) (N := 3) hx hb hws uwTR hown hK hP 0 rfl rfl 1 (by decide) (hws _ kf_TR_15) (fun _ h9 => h9) rfl dTR_exchange_35 ?_
        refine lv_iload_n hx hb dTR_exchange_38 rfl (lv_at hl 1 rfl) ?_
        refine lx_iald hx hb hK hP 2 0 rfl rfl (by decide) dTR_exchange_39 hf (fun v4 _ hf => ?_)
        obtain ⟨q5, hq, hf⟩ := bd_s hf
        refine ct_callr (ws' := w_TR K q_t q_t_lows q_t_highs f_t_lows f_t_highs y_t_lows y_t_highs z_t_diagonals) (va_runV (As := [.int (nI l4), .int (nI v4)]) (rest := []) ⟨hx, hb, hml, hown, hws⟩ (ct_TR_joined l dC dI K q_t q_t_lows q_t_highs f_t_lows f_t_highs l4 v4 y_t_lows y_t_highs z_t_diagonals q5 hq _) ⟨cb_TR_joined hws rm_TR_joined (hws _ km_TR_64) ⟨Nat.le_of_ble_eq_true rfl, Nat.le_of_ble_eq_true rfl⟩, hws _ ki_TR_joined, hws _ ke_TR_TR_joined_TR_joined⟩ ⟨ct_blind _ _ _, va_recv (ci := 3) (q0 := 0) (q := (RTR, TTR, 3)) hK hP rfl rfl, ct_pre (cs := (w_TR K q_t q_t_lows q_t_highs f_t_lows f_t_highs y_t_lows y_t_highs z_t_diagonals)) hP hD hK [0, 1, 2] (by decide) rfl _⟩ rfl rfl hl.1 rfl (lv_room (Nat.le_of_ble_eq_true rfl)) dTR_exchange_40 ⟨Nat.le_of_ble_eq_true rfl, Nat.le_of_ble_eq_true rfl⟩) hP hD hS hA [0, 1, 2] rfl rfl rfl rfl (fun H locs hP hD hS => ?_)
        refine lx_if_eq (tgt := 61) hx hb dTR_exchange_43 (by decide) hf (fun hf => ?_) (fun hf => ?_)
        · exact hj_61 _ IH l1 l2 l3 l4 y_t_lows y_t_highs _ _ _ hf (lv_sub hl [0, 1, 2, 3, 4] rfl) hP hD hS
        · refine lv_iload_n hx hb dTR_exchange_46 rfl (lv_at hl 2 rfl) ?_
          refine lv_iconst (v := nI 4294967295) hx hb dTR_exchange_47 (by decide +kernel) ?_
          refine lx_icmp_ne (tgt := 56) hx hb dTR_exchange_48 (by decide) hf (fun hf => ?_) (fun hf => ?_)
          · refine lv_iload_n hx hb dTR_exchange_56 rfl (lv_at hl 2 rfl) ?_
            exact hj_57 _ IH l1 l4 l2 y_t_lows y_t_highs _ _ _ hf (lv_sub hl [0, 1, 4] rfl) hP hD hS
          · refine lv_iload hx hb dTR_exchange_51 (lv_at hl 4 rfl) ?_
            refine lv_goto (tgt := 57) hx hb dTR_exchange_53 (by decide) ?_
            exact hj_57 _ IH l1 l4 l4 y_t_lows y_t_highs _ _ _ hf (lv_sub hl [0, 1, 4] rfl) hP hD hS
  have key : ∀ k : Nat, (∀ (l1 l2 l3 l4 y_t_lows y_t_highs : Nat) (H : Heap) (locs : List Loc) (ls : Array Slot), fr_TR_exchange x0 z_t_lows z_t_highs z_t_diagonals k l1 l2 l3 l4 y_t_lows y_t_highs = some r → lv_has ls 5 [(0, .ref q_t), (1, .int (nI l1)), (2, .int (nI l2)), (3, .int (nI l3)), (4, .int (nI l4))] → va_P (dC, dI) vwCl (w_TR K q_t q_t_lows q_t_highs f_t_lows f_t_highs y_t_lows y_t_highs z_t_diagonals) H → va_D A (w_TR K q_t q_t_lows q_t_highs f_t_lows f_t_highs y_t_lows y_t_highs z_t_diagonals) → va_S A s.heap H locs → W p l e (headSpec wc_TR_exchange rm_TR_exchange).room s m args below meth c H locs 0 0 Q (F0 m 7 ls [])) := by
    intro k
    induction k with
    | zero => exact fun l1 l2 l3 l4 y_t_lows y_t_highs H locs ls hf _ _ _ _ => no_s (α := Nat × Nat) (r := r) hf
    | succ k IH => exact fun l1 l2 l3 l4 y_t_lows y_t_highs H locs ls hf => hb_7 (fr_TR_exchange x0 z_t_lows z_t_highs z_t_diagonals k) IH l1 l2 l3 l4 y_t_lows y_t_highs H locs ls ((frs_TR_exchange_7 x0 z_t_lows z_t_highs z_t_diagonals k l1 l2 l3 l4 y_t_lows y_t_highs).symm.trans hf)
  have IH := key 1000000
  have hf : e_TR_exchange (fr_TR_exchange x0 z_t_lows z_t_highs z_t_diagonals 1000000) x0 z_t_lows z_t_highs z_t_diagonals = some r := hf
  unfold e_TR_exchange at hf
  generalize fr_TR_exchange x0 z_t_lows z_t_highs z_t_diagonals 1000000 = ih at hf IH
  refine lv_iconst (v := nI 4294967295) hx hb dTR_exchange_0 (by decide +kernel) ?_
  refine lv_istore_n hx hb dTR_exchange_1 rfl hl (by decide) rfl (fun ls hl => ?_)
  refine lv_iconst (v := nI 4294967295) hx hb dTR_exchange_2 (by decide +kernel) ?_
  refine lv_istore_n hx hb dTR_exchange_3 rfl hl (by decide) rfl (fun ls hl => ?_)
  refine lv_iconst (v := nI 0) hx hb dTR_exchange_4 (by decide +kernel) ?_
  refine lv_istore hx hb dTR_exchange_5 hl (by decide) rfl (fun ls hl => ?_)
  exact IH x0 4294967295 4294967295 0 z_t_lows z_t_highs _ _ _ hf (lv_sub hl [3, 4, 2, 1, 0] rfl) hP hD hS
