noncomputable abbrev w_RK (K : Nat → ClassId) (q_t : Nat) (q_t_counts : Nat) (g_t_counts : Nat → Nat) : va_W := [(q_t, .inr (7, [.ref q_t_counts])), (q_t_counts, .inl (K 1, 16, .inr (.inr (.inr (.inr (ou16 g_t_counts)))))), (g_t_counts 0, .inl (K 0, 16, .inl (ar zf (rowO 0)))), (g_t_counts 1, .inl (K 0, 16, .inl (ar zf (rowO 1)))), (g_t_counts 2, .inl (K 0, 16, .inl (ar zf (rowO 2)))), (g_t_counts 3, .inl (K 0, 16, .inl (ar zf (rowO 3)))), (g_t_counts 4, .inl (K 0, 16, .inl (ar zf (rowO 4)))), (g_t_counts 5, .inl (K 0, 16, .inl (ar zf (rowO 5)))), (g_t_counts 6, .inl (K 0, 16, .inl (ar zf (rowO 6)))), (g_t_counts 7, .inl (K 0, 16, .inl (ar zf (rowO 7)))), (g_t_counts 8, .inl (K 0, 16, .inl (ar zf (rowO 8)))), (g_t_counts 9, .inl (K 0, 16, .inl (ar zf (rowO 9)))), (g_t_counts 10, .inl (K 0, 16, .inl (ar zf (rowO 10)))), (g_t_counts 11, .inl (K 0, 16, .inl (ar zf (rowO 11)))), (g_t_counts 12, .inl (K 0, 16, .inl (ar zf (rowO 12)))), (g_t_counts 13, .inl (K 0, 16, .inl (ar zf (rowO 13)))), (g_t_counts 14, .inl (K 0, 16, .inl (ar zf (rowO 14)))), (g_t_counts 15, .inl (K 0, 16, .inl (ar zf (rowO 15))))]
noncomputable def f_RK_count (x0 : Nat) (x1 : Nat) : Option (Nat) := (bif Nat.blt x0 16 then (rd (rowO x0) 16 x1 (fun v1 => some v1)) else none)
abbrev rm_RK_count : Room := { frames := 0, cells := 0, slots := 0, locals := 0 }
set_option maxHeartbeats 4000000 in
set_option maxRecDepth 100000 in
theorem ct_RK_count (l : Launch) (dC : Nat → ClassId) (dI : Nat → Nat → Nat) (K : Nat → ClassId) (q_t : Nat) (q_t_counts : Nat) (g_t_counts : Nat → Nat) (x0 : Nat) (x1 : Nat) (r : Nat) (hf : f_RK_count x0 x1 = some r) : Ct l (dC, dI) vwCl yRK_count wc_RK_count rm_RK_count (tyK K) [.ref q_t, .int (nI x0), .int (nI x1)] (w_RK K q_t q_t_counts g_t_counts) (w_RK K q_t q_t_counts g_t_counts) (some (.int (nI r))) := by
  intro sz
  refine Met.ofW (cc := cRK_count) (maxL := 3) (ret := (some .int)) (by decide) rfl ?_
  intro p e s m args below meth c s₁ B hml hv
  obtain ⟨rfl, hsz, hP, hK, hD0⟩ := hv
  have hx := B.exec
  have hb := B.bytes
  have hr := B.returns
  have hts := atoms_spec (ws := wc_RK_count) B.pre
  have hws : ∀ w ∈ WS, w.before _ s = true := fun w h => hts w (List.mem_cons_of_mem _ h)
  have hown : s.vm.findClass RRK = some m.cls := findClass_of_methodNamed B.named
  have hlocks := B.notSynchronized
  subst hsz
  have hD := hD0.self (sz := s.heap.size)
  generalize hAe : va_A (w_RK K q_t q_t_counts g_t_counts) s.heap.size = A at hD ⊢
  have hA : ∀ q : Nat, s.heap.size ≤ q → A q := fun q h => by rw [← hAe]; exact Or.inr h
  have hS : va_S A s.heap s.heap [] := va_S.rf
  have hl := lv_entry ([.ref q_t, .int (nI x0), .int (nI x1)]) (n := 3) (Nat.le_of_ble_eq_true rfl)
  rw [lg_entry_eq]
  generalize (lg_sl ([.ref q_t, .int (nI x0), .int (nI x1)]) ++ List.replicate (3 - (lg_sl ([.ref q_t, .int (nI x0), .int (nI x1)])).length) Slot.unset).toArray = ls at hl ⊢
  have hl : lv_has ls 3 [(0, .ref q_t), (1, .int (nI x0)), (2, .int (nI x1))] := hl
  generalize ([.ref q_t, .int (nI x0), .int (nI x1)] : List Value).toArray = args at hts hws ⊢
  generalize hQ : MQ below _ _ _ _ _ _ = Q
  unfold f_RK_count at hf
  refine lv_aload_n hx hb dRK_count_0 rfl (lv_at hl 0 rfl) ?_
  refine va_get (D := (dC, dI)) (ci := 7) (v := .ref q_t_counts) (C := RRK) (T := TRK) (N := 1) hx hb hws uwRK hown hK hP 0 rfl rfl 0 (by decide) (hws _ kf_RK_11) (fun _ h9 => h9) rfl dRK_count_1 ?_
  refine lv_iload_n hx hb dRK_count_4 rfl (lv_at hl 1 rfl) ?_
  refine lx_gald hx hb hK hP 1 1 rfl rfl dRK_count_5 hf (fun hf hz => ?_)
  refine lv_iload_n hx hb dRK_count_6 rfl (lv_at hl 2 rfl) ?_
  refine lx_grow (g := g_t_counts) hx hb hK hP 2 0 hz (z16 rfl rfl rfl rfl rfl rfl rfl rfl rfl rfl rfl rfl rfl rfl rfl rfl) rfl dRK_count_7 hf (fun v1 _ hf => ?_)
  obtain rfl := Option.some.inj hf
  rw [← hQ]
  exact W.iret (v := nI v1) hx hb hr (fun t ht hW => ⟨⟨rfl, by rw [ht]; exact hP⟩, hS.F ht⟩) hS.2.2 dRK_count_8
noncomputable def f_RK_words (x0 : Nat) : Option (Nat) := (bif Nat.blt x0 16 then (rd (rowO x0) 16 x0 (fun v1 => some v1)) else none)
abbrev rm_RK_words : Room := { frames := 0, cells := 0, slots := 0, locals := 0 }
set_option maxHeartbeats 4000000 in
set_option maxRecDepth 100000 in
theorem ct_RK_words (l : Launch) (dC : Nat → ClassId) (dI : Nat → Nat → Nat) (K : Nat → ClassId) (q_t : Nat) (q_t_counts : Nat) (g_t_counts : Nat → Nat) (x0 : Nat) (r : Nat) (hf : f_RK_words x0 = some r) : Ct l (dC, dI) vwCl yRK_words wc_RK_words rm_RK_words (tyK K) [.ref q_t, .int (nI x0)] (w_RK K q_t q_t_counts g_t_counts) (w_RK K q_t q_t_counts g_t_counts) (some (.int (nI r))) := by
  intro sz
  refine Met.ofW (cc := cRK_words) (maxL := 2) (ret := (some .int)) (by decide) rfl ?_
  intro p e s m args below meth c s₁ B hml hv
  obtain ⟨rfl, hsz, hP, hK, hD0⟩ := hv
  have hx := B.exec
  have hb := B.bytes
  have hr := B.returns
  have hts := atoms_spec (ws := wc_RK_words) B.pre
  have hws : ∀ w ∈ WS, w.before _ s = true := fun w h => hts w (List.mem_cons_of_mem _ h)
  have hown : s.vm.findClass RRK = some m.cls := findClass_of_methodNamed B.named
  have hlocks := B.notSynchronized
  subst hsz
  have hD := hD0.self (sz := s.heap.size)
  generalize hAe : va_A (w_RK K q_t q_t_counts g_t_counts) s.heap.size = A at hD ⊢
  have hA : ∀ q : Nat, s.heap.size ≤ q → A q := fun q h => by rw [← hAe]; exact Or.inr h
  have hS : va_S A s.heap s.heap [] := va_S.rf
  have hl := lv_entry ([.ref q_t, .int (nI x0)]) (n := 2) (Nat.le_of_ble_eq_true rfl)
  rw [lg_entry_eq]
  generalize (lg_sl ([.ref q_t, .int (nI x0)]) ++ List.replicate (2 - (lg_sl ([.ref q_t, .int (nI x0)])).length) Slot.unset).toArray = ls at hl ⊢
  have hl : lv_has ls 2 [(0, .ref q_t), (1, .int (nI x0))] := hl
  generalize ([.ref q_t, .int (nI x0)] : List Value).toArray = args at hts hws ⊢
  generalize hQ : MQ below _ _ _ _ _ _ = Q
  unfold f_RK_words at hf
  refine lv_aload_n hx hb dRK_words_0 rfl (lv_at hl 0 rfl) ?_
  refine va_get (D := (dC, dI)) (ci := 7) (v := .ref q_t_counts) (C := RRK) (T := TRK) (N := 1) hx hb hws uwRK hown hK hP 0 rfl rfl 0 (by decide) (hws _ kf_RK_11) (fun _ h9 => h9) rfl dRK_words_1 ?_
  refine lv_iload_n hx hb dRK_words_4 rfl (lv_at hl 1 rfl) ?_
  refine lx_gald hx hb hK hP 1 1 rfl rfl dRK_words_5 hf (fun hf hz => ?_)
  refine lv_iload_n hx hb dRK_words_6 rfl (lv_at hl 1 rfl) ?_
  refine lx_grow (g := g_t_counts) hx hb hK hP 2 0 hz (z16 rfl rfl rfl rfl rfl rfl rfl rfl rfl rfl rfl rfl rfl rfl rfl rfl) rfl dRK_words_7 hf (fun v1 _ hf => ?_)
  obtain rfl := Option.some.inj hf
  rw [← hQ]
  exact W.iret (v := nI v1) hx hb hr (fun t ht hW => ⟨⟨rfl, by rw [ht]; exact hP⟩, hS.F ht⟩) hS.2.2 dRK_words_8
noncomputable def f_RK_endingsWithOneFirst (x0 : Nat) (x1 : Nat) : Option (Nat) := (bif iEq x0 0 then some 0 else (bif Nat.blt x1 16 then (rd (rowO x1) 16 (iS x0 1) (fun v1 => some v1)) else none))
abbrev rm_RK_endingsWithOneFirst : Room := { frames := 0, cells := 0, slots := 0, locals := 0 }
set_option maxHeartbeats 4000000 in
set_option maxRecDepth 100000 in
theorem ct_RK_endingsWithOneFirst (l : Launch) (dC : Nat → ClassId) (dI : Nat → Nat → Nat) (K : Nat → ClassId) (q_t : Nat) (q_t_counts : Nat) (g_t_counts : Nat → Nat) (x0 : Nat) (x1 : Nat) (r : Nat) (hf : f_RK_endingsWithOneFirst x0 x1 = some r) : Ct l (dC, dI) vwCl yRK_endingsWithOneFirst wc_RK_endingsWithOneFirst rm_RK_endingsWithOneFirst (tyK K) [.ref q_t, .int (nI x0), .int (nI x1)] (w_RK K q_t q_t_counts g_t_counts) (w_RK K q_t q_t_counts g_t_counts) (some (.int (nI r))) := by
  intro sz
  refine Met.ofW (cc := cRK_endingsWithOneFirst) (maxL := 3) (ret := (some .int)) (by decide) rfl ?_
  intro p e s m args below meth c s₁ B hml hv
  obtain ⟨rfl, hsz, hP, hK, hD0⟩ := hv
  have hx := B.exec
  have hb := B.bytes
  have hr := B.returns
  have hts := atoms_spec (ws := wc_RK_endingsWithOneFirst) B.pre
  have hws : ∀ w ∈ WS, w.before _ s = true := fun w h => hts w (List.mem_cons_of_mem _ h)
  have hown : s.vm.findClass RRK = some m.cls := findClass_of_methodNamed B.named
  have hlocks := B.notSynchronized
  subst hsz
  have hD := hD0.self (sz := s.heap.size)
  generalize hAe : va_A (w_RK K q_t q_t_counts g_t_counts) s.heap.size = A at hD ⊢
  have hA : ∀ q : Nat, s.heap.size ≤ q → A q := fun q h => by rw [← hAe]; exact Or.inr h
  have hS : va_S A s.heap s.heap [] := va_S.rf
  have hl := lv_entry ([.ref q_t, .int (nI x0), .int (nI x1)]) (n := 3) (Nat.le_of_ble_eq_true rfl)
  rw [lg_entry_eq]
  generalize (lg_sl ([.ref q_t, .int (nI x0), .int (nI x1)]) ++ List.replicate (3 - (lg_sl ([.ref q_t, .int (nI x0), .int (nI x1)])).length) Slot.unset).toArray = ls at hl ⊢
  have hl : lv_has ls 3 [(0, .ref q_t), (1, .int (nI x0)), (2, .int (nI x1))] := hl
  generalize ([.ref q_t, .int (nI x0), .int (nI x1)] : List Value).toArray = args at hts hws ⊢
  generalize hQ : MQ below _ _ _ _ _ _ = Q
  unfold f_RK_endingsWithOneFirst at hf
  refine lv_iload_n hx hb dRK_endingsWithOneFirst_0 rfl (lv_at hl 1 rfl) ?_
  refine lx_if_ne (tgt := 8) hx hb dRK_endingsWithOneFirst_1 (by decide) hf (fun hf => ?_) (fun hf => ?_)
  · refine lv_aload_n hx hb dRK_endingsWithOneFirst_8 rfl (lv_at hl 0 rfl) ?_
    refine va_get (D := (dC, dI)) (ci := 7) (v := .ref q_t_counts) (C := RRK) (T := TRK) (N := 1) hx hb hws uwRK hown hK hP 0 rfl rfl 0 (by decide) (hws _ kf_RK_11) (fun _ h9 => h9) rfl dRK_endingsWithOneFirst_9 ?_
    refine lv_iload_n hx hb dRK_endingsWithOneFirst_12 rfl (lv_at hl 2 rfl) ?_
    refine lx_gald hx hb hK hP 1 1 rfl rfl dRK_endingsWithOneFirst_13 hf (fun hf hz => ?_)
    refine lv_iload_n hx hb dRK_endingsWithOneFirst_14 rfl (lv_at hl 1 rfl) ?_
    refine lv_iconst (v := nI 1) hx hb dRK_endingsWithOneFirst_15 (by decide +kernel) ?_
    refine lx_isub hx hb dRK_endingsWithOneFirst_16 ?_
    refine lx_grow (g := g_t_counts) hx hb hK hP 2 0 hz (z16 rfl rfl rfl rfl rfl rfl rfl rfl rfl rfl rfl rfl rfl rfl rfl rfl) rfl dRK_endingsWithOneFirst_17 hf (fun v1 _ hf => ?_)
    obtain rfl := Option.some.inj hf
    rw [← hQ]
    exact W.iret (v := nI v1) hx hb hr (fun t ht hW => ⟨⟨rfl, by rw [ht]; exact hP⟩, hS.F ht⟩) hS.2.2 dRK_endingsWithOneFirst_18
  · refine lv_iconst (v := nI 0) hx hb dRK_endingsWithOneFirst_4 (by decide +kernel) ?_
    refine lv_goto (tgt := 18) hx hb dRK_endingsWithOneFirst_5 (by decide) ?_
    obtain rfl := Option.some.inj hf
    rw [← hQ]
    exact W.iret (v := nI 0) hx hb hr (fun t ht hW => ⟨⟨rfl, by rw [ht]; exact hP⟩, hS.F ht⟩) hS.2.2 dRK_endingsWithOneFirst_18
noncomputable def j_RK_of_54 (ih : Nat → Nat → Nat → Nat → Option (Nat)) (z_p0_bits : Nat) (z_p0_pairs : Nat) (l2 : Nat) (l3 : Nat) (l4 : Nat) (l5 : Nat) : Option (Nat) := (fz (iA l5 1) (fun u9 => ih l2 l3 l4 u9))
noncomputable def b_RK_of_16 (ih : Nat → Nat → Nat → Nat → Option (Nat)) (z_p0_bits : Nat) (z_p0_pairs : Nat) (l2 : Nat) (l3 : Nat) (l4 : Nat) (l5 : Nat) : Option (Nat) := (Option.bind (f_WD_length z_p0_pairs) (fun q3 => (bif iLt l5 q3 then (Option.bind (f_WD_isOne l5 z_p0_bits z_p0_pairs) (fun q4 => (bif iEq q4 0 then (Option.bind (f_RK_endingsWithOneFirst l2 l3) (fun q5 => (fz (iA l3 4294967295) (fun u6 => fz (iA l4 q5) (fun u7 => j_RK_of_54 ih z_p0_bits z_p0_pairs l2 u6 u7 l5))))) else (fz (iA l2 4294967295) (fun u8 => j_RK_of_54 ih z_p0_bits z_p0_pairs u8 l3 l4 l5))))) else some l4)))
noncomputable def fr_RK_of (z_p0_bits : Nat) (z_p0_pairs : Nat) (k : Nat) : Nat → Nat → Nat → Nat → Option (Nat) := Nat.rec (motive := fun _ => Nat → Nat → Nat → Nat → Option (Nat)) (fun _ _ _ _ => none) (fun _ ih a0 a1 a2 a3 => b_RK_of_16 ih z_p0_bits z_p0_pairs a0 a1 a2 a3) k
theorem frs_RK_of_16 (z_p0_bits : Nat) (z_p0_pairs : Nat) (k : Nat) (l2 : Nat) (l3 : Nat) (l4 : Nat) (l5 : Nat) : fr_RK_of z_p0_bits z_p0_pairs (k + 1) l2 l3 l4 l5 = b_RK_of_16 (fr_RK_of z_p0_bits z_p0_pairs k) z_p0_bits z_p0_pairs l2 l3 l4 l5 := rfl
noncomputable def e_RK_of (ih : Nat → Nat → Nat → Nat → Option (Nat)) (z_p0_bits : Nat) (z_p0_pairs : Nat) : Option (Nat) := (Option.bind (f_WD_pairs z_p0_pairs) (fun q1 => (Option.bind (f_WD_pairs z_p0_pairs) (fun q2 => (ih q1 q2 0 0)))))
noncomputable def f_RK_of (z_p0_bits : Nat) (z_p0_pairs : Nat) : Option (Nat) := e_RK_of (fr_RK_of z_p0_bits z_p0_pairs 1000000) z_p0_bits z_p0_pairs
abbrev rm_RK_of : Room := { frames := 2, cells := 0, slots := 0, locals := 41 }
set_option maxHeartbeats 4000000 in
set_option maxRecDepth 100000 in
theorem ct_RK_of (l : Launch) (dC : Nat → ClassId) (dI : Nat → Nat → Nat) (K : Nat → ClassId) (q_t : Nat) (q_t_counts : Nat) (g_t_counts : Nat → Nat) (q_p0 : Nat) (q_p0_bits : Nat) (q_p0_closings : Nat) (f_p0_bits : Nat → Int32) (f_p0_closings : Nat → Int32) (z_p0_bits : Nat) (z_p0_closings : Nat) (z_p0_pairs : Nat) (r : Nat) (hf : f_RK_of z_p0_bits z_p0_pairs = some r) : Ct l (dC, dI) vwCl yRK_of wc_RK_of rm_RK_of (tyK K) [.ref q_t, .ref q_p0] ((w_RK K q_t q_t_counts g_t_counts) ++ (w_WD K q_p0 q_p0_bits q_p0_closings f_p0_bits f_p0_closings z_p0_bits z_p0_closings z_p0_pairs)) ((w_RK K q_t q_t_counts g_t_counts) ++ (w_WD K q_p0 q_p0_bits q_p0_closings f_p0_bits f_p0_closings z_p0_bits z_p0_closings z_p0_pairs)) (some (.int (nI r))) := by
  intro sz
  refine Met.ofW (cc := cRK_of) (maxL := 6) (ret := (some .int)) (by decide) rfl ?_
  intro p e s m args below meth c s₁ B hml hv
  obtain ⟨rfl, hsz, hP, hK, hD0⟩ := hv
  have hx := B.exec
  have hb := B.bytes
  have hr := B.returns
  have hts := atoms_spec (ws := wc_RK_of) B.pre
  have hws : ∀ w ∈ WS, w.before _ s = true := fun w h => hts w (List.mem_cons_of_mem _ h)
  have hown : s.vm.findClass RRK = some m.cls := findClass_of_methodNamed B.named
  have hlocks := B.notSynchronized
  subst hsz
  have hD := hD0.self (sz := s.heap.size)
  generalize hAe : va_A ((w_RK K q_t q_t_counts g_t_counts) ++ (w_WD K q_p0 q_p0_bits q_p0_closings f_p0_bits f_p0_closings z_p0_bits z_p0_closings z_p0_pairs)) s.heap.size = A at hD ⊢
  have hA : ∀ q : Nat, s.heap.size ≤ q → A q := fun q h => by rw [← hAe]; exact Or.inr h
  have hS : va_S A s.heap s.heap [] := va_S.rf
  have hl := lv_entry ([.ref q_t, .ref q_p0]) (n := 6) (Nat.le_of_ble_eq_true rfl)
  rw [lg_entry_eq]
  generalize (lg_sl ([.ref q_t, .ref q_p0]) ++ List.replicate (6 - (lg_sl ([.ref q_t, .ref q_p0])).length) Slot.unset).toArray = ls at hl ⊢
  have hl : lv_has ls 6 [(0, .ref q_t), (1, .ref q_p0)] := hl
  generalize ([.ref q_t, .ref q_p0] : List Value).toArray = args at hts hws ⊢
  generalize hQ : MQ below _ _ _ _ _ _ = Q
  have hj_54 : ∀ (ih : Nat → Nat → Nat → Nat → Option (Nat)) (IH : (∀ (l2 l3 l4 l5 : Nat) (H : Heap) (locs : List Loc) (ls : Array Slot), ih l2 l3 l4 l5 = some r → lv_has ls 6 [(0, .ref q_t), (1, .ref q_p0), (2, .int (nI l2)), (3, .int (nI l3)), (4, .int (nI l4)), (5, .int (nI l5))] → va_P (dC, dI) vwCl ((w_RK K q_t q_t_counts g_t_counts) ++ (w_WD K q_p0 q_p0_bits q_p0_closings f_p0_bits f_p0_closings z_p0_bits z_p0_closings z_p0_pairs)) H → va_D A ((w_RK K q_t q_t_counts g_t_counts) ++ (w_WD K q_p0 q_p0_bits q_p0_closings f_p0_bits f_p0_closings z_p0_bits z_p0_closings z_p0_pairs)) → va_S A s.heap H locs → W p l e (headSpec wc_RK_of rm_RK_of).room s m args below meth c H locs 0 0 Q (F0 m 16 ls []))), ∀ (l2 l3 l4 l5 : Nat) (H : Heap) (locs : List Loc) (ls : Array Slot), j_RK_of_54 ih z_p0_bits z_p0_pairs l2 l3 l4 l5 = some r → lv_has ls 6 [(0, .ref q_t), (1, .ref q_p0), (2, .int (nI l2)), (3, .int (nI l3)), (4, .int (nI l4)), (5, .int (nI l5))] → va_P (dC, dI) vwCl ((w_RK K q_t q_t_counts g_t_counts) ++ (w_WD K q_p0 q_p0_bits q_p0_closings f_p0_bits f_p0_closings z_p0_bits z_p0_closings z_p0_pairs)) H → va_D A ((w_RK K q_t q_t_counts g_t_counts) ++ (w_WD K q_p0 q_p0_bits q_p0_closings f_p0_bits f_p0_closings z_p0_bits z_p0_closings z_p0_pairs)) → va_S A s.heap H locs → W p l e (headSpec wc_RK_of rm_RK_of).room s m args below meth c H locs 0 0 Q (F0 m 54 ls []) := by
    intro ih IH l2 l3 l4 l5 H locs ls hf hl hP hD hS
    unfold j_RK_of_54 at hf
    refine lx_iinc (k := 5) (d := 1) hx hb dRK_of_54 hl rfl (by decide +kernel) (by decide) rfl (fun ls hl => ?_)
    refine lv_goto (tgt := 16) hx hb dRK_of_57 (by decide) ?_
    have hf := fz_s hf
    exact IH l2 l3 l4 (iA l5 1) _ _ _ hf (lv_sub hl [1, 2, 3, 4, 5, 0] rfl) hP hD hS
  have hb_16 : ∀ (ih : Nat → Nat → Nat → Nat → Option (Nat)) (IH : (∀ (l2 l3 l4 l5 : Nat) (H : Heap) (locs : List Loc) (ls : Array Slot), ih l2 l3 l4 l5 = some r → lv_has ls 6 [(0, .ref q_t), (1, .ref q_p0), (2, .int (nI l2)), (3, .int (nI l3)), (4, .int (nI l4)), (5, .int (nI l5))] → va_P (dC, dI) vwCl ((w_RK K q_t q_t_counts g_t_counts) ++ (w_WD K q_p0 q_p0_bits q_p0_closings f_p0_bits f_p0_closings z_p0_bits z_p0_closings z_p0_pairs)) H → va_D A ((w_RK K q_t q_t_counts g_t_counts) ++ (w_WD K q_p0 q_p0_bits q_p0_closings f_p0_bits f_p0_closings z_p0_bits z_p0_closings z_p0_pairs)) → va_S A s.heap H locs → W p l e (headSpec wc_RK_of rm_RK_of).room s m args below meth c H locs 0 0 Q (F0 m 16 ls []))), ∀ (l2 l3 l4 l5 : Nat) (H : Heap) (locs : List Loc) (ls : Array Slot), b_RK_of_16 ih z_p0_bits z_p0_pairs l2 l3 l4 l5 = some r → lv_has ls 6 [(0, .ref q_t), (1, .ref q_p0), (2, .int (nI l2)), (3, .int (nI l3)), (4, .int (nI l4)), (5, .int (nI l5))] → va_P (dC, dI) vwCl ((w_RK K q_t q_t_counts g_t_counts) ++ (w_WD K q_p0 q_p0_bits q_p0_closings f_p0_bits f_p0_closings z_p0_bits z_p0_closings z_p0_pairs)) H → va_D A ((w_RK K q_t q_t_counts g_t_counts) ++ (w_WD K q_p0 q_p0_bits q_p0_closings f_p0_bits f_p0_closings z_p0_bits z_p0_closings z_p0_pairs)) → va_S A s.heap H locs → W p l e (headSpec wc_RK_of rm_RK_of).room s m args below meth c H locs 0 0 Q (F0 m 16 ls []) := by
    intro ih IH l2 l3 l4 l5 H locs ls hf hl hP hD hS
    unfold b_RK_of_16 at hf
    refine lv_iload hx hb dRK_of_16 (lv_at hl 5 rfl) ?_
    refine lv_aload_n hx hb dRK_of_18 rfl (lv_at hl 1 rfl) ?_
    obtain ⟨q3, hq, hf⟩ := bd_s hf
    refine ct_callr (ws' := (w_RK K q_t q_t_counts g_t_counts) ++ (w_WD K q_p0 q_p0_bits q_p0_closings f_p0_bits f_p0_closings z_p0_bits z_p0_closings z_p0_pairs)) (va_runV (As := []) (rest := [.int (nI l5)]) ⟨hx, hb, hml, hown, hws⟩ (ct_WD_length l dC dI K q_p0 q_p0_bits q_p0_closings f_p0_bits f_p0_closings z_p0_bits z_p0_closings z_p0_pairs q3 hq _) ⟨cb_WD_length hws rm_WD_length (hws _ km_RK_22) ⟨Nat.le_of_ble_eq_true rfl, Nat.le_of_ble_eq_true rfl⟩, hws _ ki_WD_length, hws _ ke_WD_WD_length_WD_length⟩ ⟨ct_blind _ _ _, va_recv (ci := 8) (q0 := 18) (q := (RWD, TWD, 3)) hK hP rfl rfl, ct_pre (cs := (w_WD K q_p0 q_p0_bits q_p0_closings f_p0_bits f_p0_closings z_p0_bits z_p0_closings z_p0_pairs)) hP hD hK [18, 19, 20] (by decide) rfl _⟩ rfl rfl hl.1 rfl (lv_room (Nat.le_of_ble_eq_true rfl)) dRK_of_19 ⟨Nat.le_of_ble_eq_true rfl, Nat.le_of_ble_eq_true rfl⟩) hP hD hS hA [18, 19, 20] rfl rfl rfl rfl (fun H locs hP hD hS => ?_)
    refine lx_icmp_ge (tgt := 60) hx hb dRK_of_22 (by decide) hf (fun hf => ?_) (fun hf => ?_)
    · refine lv_iload hx hb dRK_of_60 (lv_at hl 4 rfl) ?_
      obtain rfl := Option.some.inj hf
      rw [← hQ]
      exact W.iret (v := nI l4) hx hb hr (fun t ht hW => ⟨⟨rfl, by rw [ht]; exact hP⟩, hS.F ht⟩) hS.2.2 dRK_of_62
    · refine lv_aload_n hx hb dRK_of_25 rfl (lv_at hl 1 rfl) ?_
      refine lv_iload hx hb dRK_of_26 (lv_at hl 5 rfl) ?_
      obtain ⟨q4, hq, hf⟩ := bd_s hf
      refine ct_callr (ws' := (w_RK K q_t q_t_counts g_t_counts) ++ (w_WD K q_p0 q_p0_bits q_p0_closings f_p0_bits f_p0_closings z_p0_bits z_p0_closings z_p0_pairs)) (va_runV (As := [.int (nI l5)]) (rest := []) ⟨hx, hb, hml, hown, hws⟩ (ct_WD_isOne l dC dI K q_p0 q_p0_bits q_p0_closings f_p0_bits f_p0_closings l5 z_p0_bits z_p0_closings z_p0_pairs q4 hq _) ⟨cb_WD_isOne hws rm_WD_isOne (hws _ km_RK_25) ⟨Nat.le_of_ble_eq_true rfl, Nat.le_of_ble_eq_true rfl⟩, hws _ ki_WD_isOne, hws _ ke_WD_WD_isOne_WD_isOne⟩ ⟨ct_blind _ _ _, va_recv (ci := 8) (q0 := 18) (q := (RWD, TWD, 3)) hK hP rfl rfl, ct_pre (cs := (w_WD K q_p0 q_p0_bits q_p0_closings f_p0_bits f_p0_closings z_p0_bits z_p0_closings z_p0_pairs)) hP hD hK [18, 19, 20] (by decide) rfl _⟩ rfl rfl hl.1 rfl (lv_room (Nat.le_of_ble_eq_true rfl)) dRK_of_28 ⟨Nat.le_of_ble_eq_true rfl, Nat.le_of_ble_eq_true rfl⟩) hP hD hS hA [18, 19, 20] rfl rfl rfl rfl (fun H locs hP hD hS => ?_)
      refine lx_if_eq (tgt := 40) hx hb dRK_of_31 (by decide) hf (fun hf => ?_) (fun hf => ?_)
      · refine lv_iload hx hb dRK_of_40 (lv_at hl 4 rfl) ?_
        refine lv_aload_n hx hb dRK_of_42 rfl (lv_at hl 0 rfl) ?_
        refine lv_iload_n hx hb dRK_of_43 rfl (lv_at hl 2 rfl) ?_
        refine lv_iload_n hx hb dRK_of_44 rfl (lv_at hl 3 rfl) ?_
        obtain ⟨q5, hq, hf⟩ := bd_s hf
        refine ct_callr (ws' := (w_RK K q_t q_t_counts g_t_counts) ++ (w_WD K q_p0 q_p0_bits q_p0_closings f_p0_bits f_p0_closings z_p0_bits z_p0_closings z_p0_pairs)) (va_runV (As := [.int (nI l2), .int (nI l3)]) (rest := [.int (nI l4)]) ⟨hx, hb, hml, hown, hws⟩ (ct_RK_endingsWithOneFirst l dC dI K q_t q_t_counts g_t_counts l2 l3 q5 hq _) ⟨cb_RK_endingsWithOneFirst hws rm_RK_endingsWithOneFirst (hws _ km_RK_29) ⟨Nat.le_of_ble_eq_true rfl, Nat.le_of_ble_eq_true rfl⟩, hws _ ki_RK_endingsWithOneFirst, hws _ ke_RK_RK_endingsWithOneFirst_RK_endingsWithOneFirst⟩ ⟨ct_blind _ _ _, va_recv (ci := 7) (q0 := 0) (q := (RRK, TRK, 1)) hK hP rfl rfl, ct_pre (cs := (w_RK K q_t q_t_counts g_t_counts)) hP hD hK [0, 1, 2, 3, 4, 5, 6, 7, 8, 9, 10, 11, 12, 13, 14, 15, 16, 17] (by decide) rfl _⟩ rfl rfl hl.1 rfl (lv_room (Nat.le_of_ble_eq_true rfl)) dRK_of_45 ⟨Nat.le_of_ble_eq_true rfl, Nat.le_of_ble_eq_true rfl⟩) hP hD hS hA [0, 1, 2, 3, 4, 5, 6, 7, 8, 9, 10, 11, 12, 13, 14, 15, 16, 17] rfl rfl rfl rfl (fun H locs hP hD hS => ?_)
        refine lx_iadd hx hb dRK_of_48 ?_
        refine lv_istore hx hb dRK_of_49 hl (by decide) rfl (fun ls hl => ?_)
        refine lx_iinc (k := 4) (d := 4294967295) hx hb dRK_of_51 hl rfl (by decide +kernel) (by decide) rfl (fun ls hl => ?_)
        have hf := fz_s hf
        have hf := fz_s hf
        exact hj_54 _ IH l2 (iA l3 4294967295) (iA l4 q5) l5 _ _ _ hf (lv_sub hl [2, 3, 4, 0, 1, 5] rfl) hP hD hS
      · refine lx_iinc (k := 2) (d := 4294967295) hx hb dRK_of_34 hl rfl (by decide +kernel) (by decide) rfl (fun ls hl => ?_)
        refine lv_goto (tgt := 54) hx hb dRK_of_37 (by decide) ?_
        have hf := fz_s hf
        exact hj_54 _ IH (iA l2 4294967295) l3 l4 l5 _ _ _ hf (lv_sub hl [1, 2, 0, 3, 4, 5] rfl) hP hD hS
  have key : ∀ k : Nat, (∀ (l2 l3 l4 l5 : Nat) (H : Heap) (locs : List Loc) (ls : Array Slot), fr_RK_of z_p0_bits z_p0_pairs k l2 l3 l4 l5 = some r → lv_has ls 6 [(0, .ref q_t), (1, .ref q_p0), (2, .int (nI l2)), (3, .int (nI l3)), (4, .int (nI l4)), (5, .int (nI l5))] → va_P (dC, dI) vwCl ((w_RK K q_t q_t_counts g_t_counts) ++ (w_WD K q_p0 q_p0_bits q_p0_closings f_p0_bits f_p0_closings z_p0_bits z_p0_closings z_p0_pairs)) H → va_D A ((w_RK K q_t q_t_counts g_t_counts) ++ (w_WD K q_p0 q_p0_bits q_p0_closings f_p0_bits f_p0_closings z_p0_bits z_p0_closings z_p0_pairs)) → va_S A s.heap H locs → W p l e (headSpec wc_RK_of rm_RK_of).room s m args below meth c H locs 0 0 Q (F0 m 16 ls [])) := by
    intro k
    induction k with
    | zero => exact fun l2 l3 l4 l5 H locs ls hf _ _ _ _ => no_s (α := Nat) (r := r) hf
    | succ k IH => exact fun l2 l3 l4 l5 H locs ls hf => hb_16 (fr_RK_of z_p0_bits z_p0_pairs k) IH l2 l3 l4 l5 H locs ls ((frs_RK_of_16 z_p0_bits z_p0_pairs k l2 l3 l4 l5).symm.trans hf)
  have IH := key 1000000
  have hf : e_RK_of (fr_RK_of z_p0_bits z_p0_pairs 1000000) z_p0_bits z_p0_pairs = some r := hf
  unfold e_RK_of at hf
  generalize fr_RK_of z_p0_bits z_p0_pairs 1000000 = ih at hf IH
  refine lv_aload_n hx hb dRK_of_0 rfl (lv_at hl 1 rfl) ?_
  obtain ⟨q1, hq, hf⟩ := bd_s hf
  refine ct_callr (ws' := (w_RK K q_t q_t_counts g_t_counts) ++ (w_WD K q_p0 q_p0_bits q_p0_closings f_p0_bits f_p0_closings z_p0_bits z_p0_closings z_p0_pairs)) (va_runV (As := []) (rest := []) ⟨hx, hb, hml, hown, hws⟩ (ct_WD_pairs l dC dI K q_p0 q_p0_bits q_p0_closings f_p0_bits f_p0_closings z_p0_bits z_p0_closings z_p0_pairs q1 hq _) ⟨cb_WD_pairs hws rm_WD_pairs (hws _ km_RK_16) ⟨Nat.le_of_ble_eq_true rfl, Nat.le_of_ble_eq_true rfl⟩, hws _ ki_WD_pairs, hws _ ke_WD_WD_pairs_WD_pairs⟩ ⟨ct_blind _ _ _, va_recv (ci := 8) (q0 := 18) (q := (RWD, TWD, 3)) hK hP rfl rfl, ct_pre (cs := (w_WD K q_p0 q_p0_bits q_p0_closings f_p0_bits f_p0_closings z_p0_bits z_p0_closings z_p0_pairs)) hP hD hK [18, 19, 20] (by decide) rfl _⟩ rfl rfl hl.1 rfl (lv_room (Nat.le_of_ble_eq_true rfl)) dRK_of_1 ⟨Nat.le_of_ble_eq_true rfl, Nat.le_of_ble_eq_true rfl⟩) hP hD hS hA [18, 19, 20] rfl rfl rfl rfl (fun H locs hP hD hS => ?_)
  refine lv_istore_n hx hb dRK_of_4 rfl hl (by decide) rfl (fun ls hl => ?_)
  refine lv_aload_n hx hb dRK_of_5 rfl (lv_at hl 2 rfl) ?_
  obtain ⟨q2, hq, hf⟩ := bd_s hf
  refine ct_callr (ws' := (w_RK K q_t q_t_counts g_t_counts) ++ (w_WD K q_p0 q_p0_bits q_p0_closings f_p0_bits f_p0_closings z_p0_bits z_p0_closings z_p0_pairs)) (va_runV (As := []) (rest := []) ⟨hx, hb, hml, hown, hws⟩ (ct_WD_pairs l dC dI K q_p0 q_p0_bits q_p0_closings f_p0_bits f_p0_closings z_p0_bits z_p0_closings z_p0_pairs q2 hq _) ⟨cb_WD_pairs hws rm_WD_pairs (hws _ km_RK_16) ⟨Nat.le_of_ble_eq_true rfl, Nat.le_of_ble_eq_true rfl⟩, hws _ ki_WD_pairs, hws _ ke_WD_WD_pairs_WD_pairs⟩ ⟨ct_blind _ _ _, va_recv (ci := 8) (q0 := 18) (q := (RWD, TWD, 3)) hK hP rfl rfl, ct_pre (cs := (w_WD K q_p0 q_p0_bits q_p0_closings f_p0_bits f_p0_closings z_p0_bits z_p0_closings z_p0_pairs)) hP hD hK [18, 19, 20] (by decide) rfl _⟩ rfl rfl hl.1 rfl (lv_room (Nat.le_of_ble_eq_true rfl)) dRK_of_6 ⟨Nat.le_of_ble_eq_true rfl, Nat.le_of_ble_eq_true rfl⟩) hP hD hS hA [18, 19, 20] rfl rfl rfl rfl (fun H locs hP hD hS => ?_)
  refine lv_istore_n hx hb dRK_of_9 rfl hl (by decide) rfl (fun ls hl => ?_)
  refine lv_iconst (v := nI 0) hx hb dRK_of_10 (by decide +kernel) ?_
  refine lv_istore hx hb dRK_of_11 hl (by decide) rfl (fun ls hl => ?_)
  refine lv_iconst (v := nI 0) hx hb dRK_of_13 (by decide +kernel) ?_
  refine lv_istore hx hb dRK_of_14 hl (by decide) rfl (fun ls hl => ?_)
  exact IH q1 q2 0 0 _ _ _ hf (lv_sub hl [4, 5, 3, 2, 1, 0] rfl) hP hD hS
noncomputable def j_RK_seek_66 (ih : Nat → Nat → Nat → Nat → Nat → Nat → Nat → Nat → Option (Nat × Nat × Nat)) (x1 : Nat) (x2 : Nat) (z_p0_bits : Nat) (z_p0_closings : Nat) (z_p0_pairs : Nat) (l2 : Nat) (l4 : Nat) (l5 : Nat) (l6 : Nat) (l7 : Nat) (y_p0_bits : Nat) (y_p0_closings : Nat) (y_p0_pairs : Nat) : Option (Nat × Nat × Nat) := (fz (iA l7 1) (fun u10 => ih l2 l4 l5 l6 u10 y_p0_bits y_p0_closings y_p0_pairs))
noncomputable def b_RK_seek_17 (ih : Nat → Nat → Nat → Nat → Nat → Nat → Nat → Nat → Option (Nat × Nat × Nat)) (x1 : Nat) (x2 : Nat) (z_p0_bits : Nat) (z_p0_closings : Nat) (z_p0_pairs : Nat) (l2 : Nat) (l4 : Nat) (l5 : Nat) (l6 : Nat) (l7 : Nat) (y_p0_bits : Nat) (y_p0_closings : Nat) (y_p0_pairs : Nat) : Option (Nat × Nat × Nat) := (bif iLt l7 (iM 2 l2) then (Option.bind (f_RK_endingsWithOneFirst l4 l5) (fun q5 => (bif iLt l6 q5 then (fz (iA l4 4294967295) (fun u9 => j_RK_seek_66 ih x1 x2 z_p0_bits z_p0_closings z_p0_pairs l2 u9 l5 l6 l7 y_p0_bits y_p0_closings y_p0_pairs)) else (Option.bind (f_WD_closeAfter (iS l2 l4) y_p0_closings y_p0_pairs) (fun q6 => (fz (iA l5 4294967295) (fun u7 => fz (iS l6 q5) (fun u8 => j_RK_seek_66 ih x1 x2 z_p0_bits z_p0_closings z_p0_pairs l2 l4 u7 u8 l7 y_p0_bits q6 y_p0_pairs)))))))) else (Option.bind (f_WD_finish y_p0_bits y_p0_closings y_p0_pairs) (fun q4 => some (q4.2, y_p0_closings, y_p0_pairs))))
noncomputable def fr_RK_seek (x1 : Nat) (x2 : Nat) (z_p0_bits : Nat) (z_p0_closings : Nat) (z_p0_pairs : Nat) (k : Nat) : Nat → Nat → Nat → Nat → Nat → Nat → Nat → Nat → Option (Nat × Nat × Nat) := Nat.rec (motive := fun _ => Nat → Nat → Nat → Nat → Nat → Nat → Nat → Nat → Option (Nat × Nat × Nat)) (fun _ _ _ _ _ _ _ _ => none) (fun _ ih a0 a1 a2 a3 a4 a5 a6 a7 => b_RK_seek_17 ih x1 x2 z_p0_bits z_p0_closings z_p0_pairs a0 a1 a2 a3 a4 a5 a6 a7) k
theorem frs_RK_seek_17 (x1 : Nat) (x2 : Nat) (z_p0_bits : Nat) (z_p0_closings : Nat) (z_p0_pairs : Nat) (k : Nat) (l2 : Nat) (l4 : Nat) (l5 : Nat) (l6 : Nat) (l7 : Nat) (y_p0_bits : Nat) (y_p0_closings : Nat) (y_p0_pairs : Nat) : fr_RK_seek x1 x2 z_p0_bits z_p0_closings z_p0_pairs (k + 1) l2 l4 l5 l6 l7 y_p0_bits y_p0_closings y_p0_pairs = b_RK_seek_17 (fr_RK_seek x1 x2 z_p0_bits z_p0_closings z_p0_pairs k) x1 x2 z_p0_bits z_p0_closings z_p0_pairs l2 l4 l5 l6 l7 y_p0_bits y_p0_closings y_p0_pairs := rfl
noncomputable def e_RK_seek (ih : Nat → Nat → Nat → Nat → Nat → Nat → Nat → Nat → Option (Nat × Nat × Nat)) (x1 : Nat) (x2 : Nat) (z_p0_bits : Nat) (z_p0_closings : Nat) (z_p0_pairs : Nat) : Option (Nat × Nat × Nat) := (Option.bind (f_WD_begin x1 z_p0_closings z_p0_pairs) (fun q1 => (fz q1.1 (fun u2 => fz q1.2 (fun u3 => ih x1 x1 x1 x2 0 z_p0_bits u2 u3)))))
noncomputable def f_RK_seek (x1 : Nat) (x2 : Nat) (z_p0_bits : Nat) (z_p0_closings : Nat) (z_p0_pairs : Nat) : Option (Nat × Nat × Nat) := e_RK_seek (fr_RK_seek x1 x2 z_p0_bits z_p0_closings z_p0_pairs 1000000) x1 x2 z_p0_bits z_p0_closings z_p0_pairs
abbrev rm_RK_seek : Room := { frames := 2, cells := 0, slots := 0, locals := 44 }
set_option maxHeartbeats 4000000 in
set_option maxRecDepth 100000 in
theorem ct_RK_seek (l : Launch) (dC : Nat → ClassId) (dI : Nat → Nat → Nat) (K : Nat → ClassId) (q_t : Nat) (q_t_counts : Nat) (g_t_counts : Nat → Nat) (q_p0 : Nat) (q_p0_bits : Nat) (q_p0_closings : Nat) (f_p0_bits : Nat → Int32) (f_p0_closings : Nat → Int32) (x1 : Nat) (x2 : Nat) (z_p0_bits : Nat) (z_p0_closings : Nat) (z_p0_pairs : Nat) (r : Nat × Nat × Nat) (hf : f_RK_seek x1 x2 z_p0_bits z_p0_closings z_p0_pairs = some r) : Ct l (dC, dI) vwCl yRK_seek wc_RK_seek rm_RK_seek (tyK K) [.ref q_t, .ref q_p0, .int (nI x1), .int (nI x2)] ((w_RK K q_t q_t_counts g_t_counts) ++ (w_WD K q_p0 q_p0_bits q_p0_closings f_p0_bits f_p0_closings z_p0_bits z_p0_closings z_p0_pairs)) ((w_RK K q_t q_t_counts g_t_counts) ++ (w_WD K q_p0 q_p0_bits q_p0_closings f_p0_bits f_p0_closings r.1 r.2.1 r.2.2)) none := by
  intro sz
  refine Met.ofW (cc := cRK_seek) (maxL := 9) (ret := none) (by decide) rfl ?_
  intro p e s m args below meth c s₁ B hml hv
  obtain ⟨rfl, hsz, hP, hK, hD0⟩ := hv
  have hx := B.exec
  have hb := B.bytes
  have hr := B.returns
  have hts := atoms_spec (ws := wc_RK_seek) B.pre
  have hws : ∀ w ∈ WS, w.before _ s = true := fun w h => hts w (List.mem_cons_of_mem _ h)
  have hown : s.vm.findClass RRK = some m.cls := findClass_of_methodNamed B.named
  have hlocks := B.notSynchronized
  subst hsz
  have hD := hD0.self (sz := s.heap.size)
  generalize hAe : va_A ((w_RK K q_t q_t_counts g_t_counts) ++ (w_WD K q_p0 q_p0_bits q_p0_closings f_p0_bits f_p0_closings z_p0_bits z_p0_closings z_p0_pairs)) s.heap.size = A at hD ⊢
  have hA : ∀ q : Nat, s.heap.size ≤ q → A q := fun q h => by rw [← hAe]; exact Or.inr h
  have hS : va_S A s.heap s.heap [] := va_S.rf
  have hl := lv_entry ([.ref q_t, .ref q_p0, .int (nI x1), .int (nI x2)]) (n := 9) (Nat.le_of_ble_eq_true rfl)
  rw [lg_entry_eq]
  generalize (lg_sl ([.ref q_t, .ref q_p0, .int (nI x1), .int (nI x2)]) ++ List.replicate (9 - (lg_sl ([.ref q_t, .ref q_p0, .int (nI x1), .int (nI x2)])).length) Slot.unset).toArray = ls at hl ⊢
  have hl : lv_has ls 9 [(0, .ref q_t), (1, .ref q_p0), (2, .int (nI x1)), (3, .int (nI x2))] := hl
  generalize ([.ref q_t, .ref q_p0, .int (nI x1), .int (nI x2)] : List Value).toArray = args at hts hws ⊢
  generalize hQ : MQ below _ _ _ _ _ _ = Q
  have hj_66 : ∀ (ih : Nat → Nat → Nat → Nat → Nat → Nat → Nat → Nat → Option (Nat × Nat × Nat)) (IH : (∀ (l2 l4 l5 l6 l7 y_p0_bits y_p0_closings y_p0_pairs : Nat) (H : Heap) (locs : List Loc) (ls : Array Slot), ih l2 l4 l5 l6 l7 y_p0_bits y_p0_closings y_p0_pairs = some r → lv_has ls 9 [(0, .ref q_t), (1, .ref q_p0), (2, .int (nI l2)), (4, .int (nI l4)), (5, .int (nI l5)), (6, .int (nI l6)), (7, .int (nI l7))] → va_P (dC, dI) vwCl ((w_RK K q_t q_t_counts g_t_counts) ++ (w_WD K q_p0 q_p0_bits q_p0_closings f_p0_bits f_p0_closings y_p0_bits y_p0_closings y_p0_pairs)) H → va_D A ((w_RK K q_t q_t_counts g_t_counts) ++ (w_WD K q_p0 q_p0_bits q_p0_closings f_p0_bits f_p0_closings y_p0_bits y_p0_closings y_p0_pairs)) → va_S A s.heap H locs → W p l e (headSpec wc_RK_seek rm_RK_seek).room s m args below meth c H locs 0 0 Q (F0 m 17 ls []))), ∀ (l2 l4 l5 l6 l7 y_p0_bits y_p0_closings y_p0_pairs : Nat) (H : Heap) (locs : List Loc) (ls : Array Slot), j_RK_seek_66 ih x1 x2 z_p0_bits z_p0_closings z_p0_pairs l2 l4 l5 l6 l7 y_p0_bits y_p0_closings y_p0_pairs = some r → lv_has ls 9 [(0, .ref q_t), (1, .ref q_p0), (2, .int (nI l2)), (4, .int (nI l4)), (5, .int (nI l5)), (6, .int (nI l6)), (7, .int (nI l7))] → va_P (dC, dI) vwCl ((w_RK K q_t q_t_counts g_t_counts) ++ (w_WD K q_p0 q_p0_bits q_p0_closings f_p0_bits f_p0_closings y_p0_bits y_p0_closings y_p0_pairs)) H → va_D A ((w_RK K q_t q_t_counts g_t_counts) ++ (w_WD K q_p0 q_p0_bits q_p0_closings f_p0_bits f_p0_closings y_p0_bits y_p0_closings y_p0_pairs)) → va_S A s.heap H locs → W p l e (headSpec wc_RK_seek rm_RK_seek).room s m args below meth c H locs 0 0 Q (F0 m 66 ls []) := by
    intro ih IH l2 l4 l5 l6 l7 y_p0_bits y_p0_closings y_p0_pairs H locs ls hf hl hP hD hS
    unfold j_RK_seek_66 at hf
    refine lx_iinc (k := 6) (d := 1) hx hb dRK_seek_66 hl rfl (by decide +kernel) (by decide) rfl (fun ls hl => ?_)
    refine lv_goto (tgt := 17) hx hb dRK_seek_69 (by decide) ?_
    have hf := fz_s hf
    exact IH l2 l4 l5 l6 (iA l7 1) y_p0_bits y_p0_closings y_p0_pairs _ _ _ hf (lv_sub hl [1, 2, 3, 4, 5, 6, 0] rfl) hP hD hS
  have hb_17 : ∀ (ih : Nat → Nat → Nat → Nat → Nat → Nat → Nat → Nat → Option (Nat × Nat × Nat)) (IH : (∀ (l2 l4 l5 l6 l7 y_p0_bits y_p0_closings y_p0_pairs : Nat) (H : Heap) (locs : List Loc) (ls : Array Slot), ih l2 l4 l5 l6 l7 y_p0_bits y_p0_closings y_p0_pairs = some r → lv_has ls 9 [(0, .ref q_t), (1, .ref q_p0), (2, .int (nI l2)), (4, .int (nI l4)), (5, .int (nI l5)), (6, .int (nI l6)), (7, .int (nI l7))] → va_P (dC, dI) vwCl ((w_RK K q_t q_t_counts g_t_counts) ++ (w_WD K q_p0 q_p0_bits q_p0_closings f_p0_bits f_p0_closings y_p0_bits y_p0_closings y_p0_pairs)) H → va_D A ((w_RK K q_t q_t_counts g_t_counts) ++ (w_WD K q_p0 q_p0_bits q_p0_closings f_p0_bits f_p0_closings y_p0_bits y_p0_closings y_p0_pairs)) → va_S A s.heap H locs → W p l e (headSpec wc_RK_seek rm_RK_seek).room s m args below meth c H locs 0 0 Q (F0 m 17 ls []))), ∀ (l2 l4 l5 l6 l7 y_p0_bits y_p0_closings y_p0_pairs : Nat) (H : Heap) (locs : List Loc) (ls : Array Slot), b_RK_seek_17 ih x1 x2 z_p0_bits z_p0_closings z_p0_pairs l2 l4 l5 l6 l7 y_p0_bits y_p0_closings y_p0_pairs = some r → lv_has ls 9 [(0, .ref q_t), (1, .ref q_p0), (2, .int (nI l2)), (4, .int (nI l4)), (5, .int (nI l5)), (6, .int (nI l6)), (7, .int (nI l7))] → va_P (dC, dI) vwCl ((w_RK K q_t q_t_counts g_t_counts) ++ (w_WD K q_p0 q_p0_bits q_p0_closings f_p0_bits f_p0_closings y_p0_bits y_p0_closings y_p0_pairs)) H → va_D A ((w_RK K q_t q_t_counts g_t_counts) ++ (w_WD K q_p0 q_p0_bits q_p0_closings f_p0_bits f_p0_closings y_p0_bits y_p0_closings y_p0_pairs)) → va_S A s.heap H locs → W p l e (headSpec wc_RK_seek rm_RK_seek).room s m args below meth c H locs 0 0 Q (F0 m 17 ls []) := by
    intro ih IH l2 l4 l5 l6 l7 y_p0_bits y_p0_closings y_p0_pairs H locs ls hf hl hP hD hS
    unfold b_RK_seek_17 at hf
    refine lv_iload hx hb dRK_seek_17 (lv_at hl 6 rfl) ?_
    refine lv_iconst (v := nI 2) hx hb dRK_seek_19 (by decide +kernel) ?_
    refine lv_iload_n hx hb dRK_seek_20 rfl (lv_at hl 2 rfl) ?_
    refine lx_imul hx hb dRK_seek_21 ?_
    refine lx_icmp_ge (tgt := 72) hx hb dRK_seek_22 (by decide) hf (fun hf => ?_) (fun hf => ?_)
    · refine lv_aload_n hx hb dRK_seek_72 rfl (lv_at hl 1 rfl) ?_
      obtain ⟨q4, hq, hf⟩ := bd_s hf
      refine ct_callr (ws' := (w_RK K q_t q_t_counts g_t_counts) ++ (w_WD K q_p0 q_p0_bits q_p0_closings f_p0_bits f_p0_closings q4.2 y_p0_closings y_p0_pairs)) (va_runV (As := []) (rest := []) ⟨hx, hb, hml, hown, hws⟩ (ct_WD_finish l dC dI K q_p0 q_p0_bits q_p0_closings f_p0_bits f_p0_closings y_p0_bits y_p0_closings y_p0_pairs q4 hq _) ⟨cb_WD_finish hws rm_WD_finish (hws _ km_RK_40) ⟨Nat.le_of_ble_eq_true rfl, Nat.le_of_ble_eq_true rfl⟩, hws _ ki_WD_finish, hws _ ke_WD_WD_finish_WD_finish⟩ ⟨ct_blind _ _ _, va_recv (ci := 8) (q0 := 18) (q := (RWD, TWD, 3)) hK hP rfl rfl, ct_pre (cs := (w_WD K q_p0 q_p0_bits q_p0_closings f_p0_bits f_p0_closings y_p0_bits y_p0_closings y_p0_pairs)) hP hD hK [18, 19, 20] (by decide) rfl _⟩ rfl rfl hl.1 rfl (lv_room (Nat.le_of_ble_eq_true rfl)) dRK_seek_73 ⟨Nat.le_of_ble_eq_true rfl, Nat.le_of_ble_eq_true rfl⟩) hP hD hS hA [18, 19, 20] rfl rfl rfl rfl (fun H locs hP hD hS => ?_)
      have hP : va_P (dC, dI) vwCl ((w_RK K q_t q_t_counts g_t_counts) ++ (w_WD K q_p0 q_p0_bits q_p0_closings f_p0_bits f_p0_closings q4.2 y_p0_closings y_p0_pairs)) H := hP
      have hD : va_D A ((w_RK K q_t q_t_counts g_t_counts) ++ (w_WD K q_p0 q_p0_bits q_p0_closings f_p0_bits f_p0_closings q4.2 y_p0_closings y_p0_pairs)) := hD
      refine lv_pop hx hb dRK_seek_76 rfl ?_
      obtain rfl := Option.some.inj hf
      rw [← hQ]
      exact W.vret hx hb hr (fun t ht hW => ⟨⟨rfl, by rw [ht]; exact hP⟩, hS.F ht⟩) hS.2.2 dRK_seek_77
    · refine lv_aload_n hx hb dRK_seek_25 rfl (lv_at hl 0 rfl) ?_
      refine lv_iload hx hb dRK_seek_26 (lv_at hl 3 rfl) ?_
      refine lv_iload hx hb dRK_seek_28 (lv_at hl 4 rfl) ?_
      obtain ⟨q5, hq, hf⟩ := bd_s hf
      refine ct_callr (ws' := (w_RK K q_t q_t_counts g_t_counts) ++ (w_WD K q_p0 q_p0_bits q_p0_closings f_p0_bits f_p0_closings y_p0_bits y_p0_closings y_p0_pairs)) (va_runV (As := [.int (nI l4), .int (nI l5)]) (rest := []) ⟨hx, hb, hml, hown, hws⟩ (ct_RK_endingsWithOneFirst l dC dI K q_t q_t_counts g_t_counts l4 l5 q5 hq _) ⟨cb_RK_endingsWithOneFirst hws rm_RK_endingsWithOneFirst (hws _ km_RK_29) ⟨Nat.le_of_ble_eq_true rfl, Nat.le_of_ble_eq_true rfl⟩, hws _ ki_RK_endingsWithOneFirst, hws _ ke_RK_RK_endingsWithOneFirst_RK_endingsWithOneFirst⟩ ⟨ct_blind _ _ _, va_recv (ci := 7) (q0 := 0) (q := (RRK, TRK, 1)) hK hP rfl rfl, ct_pre (cs := (w_RK K q_t q_t_counts g_t_counts)) hP hD hK [0, 1, 2, 3, 4, 5, 6, 7, 8, 9, 10, 11, 12, 13, 14, 15, 16, 17] (by decide) rfl _⟩ rfl rfl hl.1 rfl (lv_room (Nat.le_of_ble_eq_true rfl)) dRK_seek_30 ⟨Nat.le_of_ble_eq_true rfl, Nat.le_of_ble_eq_true rfl⟩) hP hD hS hA [0, 1, 2, 3, 4, 5, 6, 7, 8, 9, 10, 11, 12, 13, 14, 15, 16, 17] rfl rfl rfl rfl (fun H locs hP hD hS => ?_)
      refine lv_istore hx hb dRK_seek_33 hl (by decide) rfl (fun ls hl => ?_)
      refine lv_iload hx hb dRK_seek_35 (lv_at hl 6 rfl) ?_
      refine lv_iload hx hb dRK_seek_37 (lv_at hl 0 rfl) ?_
      refine lx_icmp_ge (tgt := 48) hx hb dRK_seek_39 (by decide) hf (fun hf => ?_) (fun hf => ?_)
      · refine lv_iload hx hb dRK_seek_48 (lv_at hl 6 rfl) ?_
        refine lv_iload hx hb dRK_seek_50 (lv_at hl 0 rfl) ?_
        refine lx_isub hx hb dRK_seek_52 ?_
        refine lv_istore hx hb dRK_seek_53 hl (by decide) rfl (fun ls hl => ?_)
        refine lx_iinc (k := 6) (d := 4294967295) hx hb dRK_seek_55 hl rfl (by decide +kernel) (by decide) rfl (fun ls hl => ?_)
        refine lv_aload_n hx hb dRK_seek_58 rfl (lv_at hl 4 rfl) ?_
        refine lv_iload_n hx hb dRK_seek_59 rfl (lv_at hl 5 rfl) ?_
        refine lv_iload hx hb dRK_seek_60 (lv_at hl 6 rfl) ?_
        refine lx_isub hx hb dRK_seek_62 ?_
        obtain ⟨q6, hq, hf⟩ := bd_s hf
        refine ct_callv (ws' := (w_RK K q_t q_t_counts g_t_counts) ++ (w_WD K q_p0 q_p0_bits q_p0_closings f_p0_bits f_p0_closings y_p0_bits q6 y_p0_pairs)) (va_runV (As := [.int (nI (iS l2 l4))]) (rest := []) ⟨hx, hb, hml, hown, hws⟩ (ct_WD_closeAfter l dC dI K q_p0 q_p0_bits q_p0_closings f_p0_bits f_p0_closings (iS l2 l4) y_p0_bits y_p0_closings y_p0_pairs q6 hq _) ⟨cb_WD_closeAfter hws rm_WD_closeAfter (hws _ km_RK_37) ⟨Nat.le_of_ble_eq_true rfl, Nat.le_of_ble_eq_true rfl⟩, hws _ ki_WD_closeAfter, hws _ ke_WD_WD_closeAfter_WD_closeAfter⟩ ⟨ct_blind _ _ _, va_recv (ci := 8) (q0 := 18) (q := (RWD, TWD, 3)) hK hP rfl rfl, ct_pre (cs := (w_WD K q_p0 q_p0_bits q_p0_closings f_p0_bits f_p0_closings y_p0_bits y_p0_closings y_p0_pairs)) hP hD hK [18, 19, 20] (by decide) rfl _⟩ rfl rfl hl.1 rfl (lv_room (Nat.le_of_ble_eq_true rfl)) dRK_seek_63 ⟨Nat.le_of_ble_eq_true rfl, Nat.le_of_ble_eq_true rfl⟩) hP hD hS hA [18, 19, 20] rfl rfl rfl rfl (fun H locs hP hD hS => ?_)
        have hP : va_P (dC, dI) vwCl ((w_RK K q_t q_t_counts g_t_counts) ++ (w_WD K q_p0 q_p0_bits q_p0_closings f_p0_bits f_p0_closings y_p0_bits q6 y_p0_pairs)) H := hP
        have hD : va_D A ((w_RK K q_t q_t_counts g_t_counts) ++ (w_WD K q_p0 q_p0_bits q_p0_closings f_p0_bits f_p0_closings y_p0_bits q6 y_p0_pairs)) := hD
        have hf := fz_s hf
        have hf := fz_s hf
        exact hj_66 _ IH l2 l4 (iA l5 4294967295) (iS l6 q5) l7 y_p0_bits q6 y_p0_pairs _ _ _ hf (lv_sub hl [3, 4, 5, 6, 0, 1, 7] rfl) hP hD hS
      · refine lx_iinc (k := 4) (d := 4294967295) hx hb dRK_seek_42 hl rfl (by decide +kernel) (by decide) rfl (fun ls hl => ?_)
        refine lv_goto (tgt := 66) hx hb dRK_seek_45 (by decide) ?_
        have hf := fz_s hf
        exact hj_66 _ IH l2 (iA l4 4294967295) l5 l6 l7 y_p0_bits y_p0_closings y_p0_pairs _ _ _ hf (lv_sub hl [2, 3, 4, 0, 5, 6, 7] rfl) hP hD hS
  have key : ∀ k : Nat, (∀ (l2 l4 l5 l6 l7 y_p0_bits y_p0_closings y_p0_pairs : Nat) (H : Heap) (locs : List Loc) (ls : Array Slot), fr_RK_seek x1 x2 z_p0_bits z_p0_closings z_p0_pairs k l2 l4 l5 l6 l7 y_p0_bits y_p0_closings y_p0_pairs = some r → lv_has ls 9 [(0, .ref q_t), (1, .ref q_p0), (2, .int (nI l2)), (4, .int (nI l4)), (5, .int (nI l5)), (6, .int (nI l6)), (7, .int (nI l7))] → va_P (dC, dI) vwCl ((w_RK K q_t q_t_counts g_t_counts) ++ (w_WD K q_p0 q_p0_bits q_p0_closings f_p0_bits f_p0_closings y_p0_bits y_p0_closings y_p0_pairs)) H → va_D A ((w_RK K q_t q_t_counts g_t_counts) ++ (w_WD K q_p0 q_p0_bits q_p0_closings f_p0_bits f_p0_closings y_p0_bits y_p0_closings y_p0_pairs)) → va_S A s.heap H locs → W p l e (headSpec wc_RK_seek rm_RK_seek).room s m args below meth c H locs 0 0 Q (F0 m 17 ls [])) := by
    intro k
    induction k with
    | zero => exact fun l2 l4 l5 l6 l7 y_p0_bits y_p0_closings y_p0_pairs H locs ls hf _ _ _ _ => no_s (α := Nat × Nat × Nat) (r := r) hf
    | succ k IH => exact fun l2 l4 l5 l6 l7 y_p0_bits y_p0_closings y_p0_pairs H locs ls hf => hb_17 (fr_RK_seek x1 x2 z_p0_bits z_p0_closings z_p0_pairs k) IH l2 l4 l5 l6 l7 y_p0_bits y_p0_closings y_p0_pairs H locs ls ((frs_RK_seek_17 x1 x2 z_p0_bits z_p0_closings z_p0_pairs k l2 l4 l5 l6 l7 y_p0_bits y_p0_closings y_p0_pairs).symm.trans hf)
  have IH := key 1000000
  have hf : e_RK_seek (fr_RK_seek x1 x2 z_p0_bits z_p0_closings z_p0_pairs 1000000) x1 x2 z_p0_bits z_p0_closings z_p0_pairs = some r := hf
  unfold e_RK_seek at hf
  generalize fr_RK_seek x1 x2 z_p0_bits z_p0_closings z_p0_pairs 1000000 = ih at hf IH
  refine lv_iload_n hx hb dRK_seek_0 rfl (lv_at hl 2 rfl) ?_
  refine lv_istore hx hb dRK_seek_1 hl (by decide) rfl (fun ls hl => ?_)
  refine lv_iload_n hx hb dRK_seek_3 rfl (lv_at hl 3 rfl) ?_
  refine lv_istore hx hb dRK_seek_4 hl (by decide) rfl (fun ls hl => ?_)
  refine lv_iload_n hx hb dRK_seek_6 rfl (lv_at hl 5 rfl) ?_
  refine lv_istore hx hb dRK_seek_7 hl (by decide) rfl (fun ls hl => ?_)
  refine lv_aload_n hx hb dRK_seek_9 rfl (lv_at hl 4 rfl) ?_
  refine lv_iload_n hx hb dRK_seek_10 rfl (lv_at hl 5 rfl) ?_
  obtain ⟨q1, hq, hf⟩ := bd_s hf
  refine ct_callv (ws' := (w_RK K q_t q_t_counts g_t_counts) ++ (w_WD K q_p0 q_p0_bits q_p0_closings f_p0_bits f_p0_closings z_p0_bits q1.1 q1.2)) (va_runV (As := [.int (nI x1)]) (rest := []) ⟨hx, hb, hml, hown, hws⟩ (ct_WD_begin l dC dI K q_p0 q_p0_bits q_p0_closings f_p0_bits f_p0_closings x1 z_p0_bits z_p0_closings z_p0_pairs q1 hq _) ⟨cb_WD_begin hws rm_WD_begin (hws _ km_RK_33) ⟨Nat.le_of_ble_eq_true rfl, Nat.le_of_ble_eq_true rfl⟩, hws _ ki_WD_begin, hws _ ke_WD_WD_begin_WD_begin⟩ ⟨ct_blind _ _ _, va_recv (ci := 8) (q0 := 18) (q := (RWD, TWD, 3)) hK hP rfl rfl, ct_pre (cs := (w_WD K q_p0 q_p0_bits q_p0_closings f_p0_bits f_p0_closings z_p0_bits z_p0_closings z_p0_pairs)) hP hD hK [18, 19, 20] (by decide) rfl _⟩ rfl rfl hl.1 rfl (lv_room (Nat.le_of_ble_eq_true rfl)) dRK_seek_11 ⟨Nat.le_of_ble_eq_true rfl, Nat.le_of_ble_eq_true rfl⟩) hP hD hS hA [18, 19, 20] rfl rfl rfl rfl (fun H locs hP hD hS => ?_)
  have hP : va_P (dC, dI) vwCl ((w_RK K q_t q_t_counts g_t_counts) ++ (w_WD K q_p0 q_p0_bits q_p0_closings f_p0_bits f_p0_closings z_p0_bits q1.1 q1.2)) H := hP
  have hD : va_D A ((w_RK K q_t q_t_counts g_t_counts) ++ (w_WD K q_p0 q_p0_bits q_p0_closings f_p0_bits f_p0_closings z_p0_bits q1.1 q1.2)) := hD
  refine lv_iconst (v := nI 0) hx hb dRK_seek_14 (by decide +kernel) ?_
  refine lv_istore hx hb dRK_seek_15 hl (by decide) rfl (fun ls hl => ?_)
  have hf := fz_s hf
  have hf := fz_s hf
  exact IH x1 x1 x1 x2 0 z_p0_bits q1.1 q1.2 _ _ _ hf (lv_sub hl [4, 5, 6, 3, 2, 1, 0] rfl) hP hD hS
