abbrev rm_graphP : Room := { frames := 0, cells := 0, slots := 0, locals := 0 }
set_option maxHeartbeats 4000000 in
theorem ct_graphP1 (l : Launch) (dC : Nat → ClassId) (dI : Nat → Nat → Nat) (K : Nat → ClassId) (q_t q_t_ranks q_t_partitions q_t_triangulations q_t_families q_t_graphs q_t_paper q_t_trial q_cu q_dr : Nat) (h : Nat → Option Nat) (qg : Nat) (hh : h 1 = some qg) : Ct l (dC, dI) vwCl yCW_graphOf wc_CW_graphOf rm_graphP (tyK K) [.ref q_t, .int (nI 1)] (fl [bCW K q_t q_t_ranks q_t_partitions q_t_triangulations q_t_families q_t_graphs q_t_paper q_t_trial q_cu q_dr, bGR K q_t_graphs h]) (fl [bCW K q_t q_t_ranks q_t_partitions q_t_triangulations q_t_families q_t_graphs q_t_paper q_t_trial q_cu q_dr, bGR K q_t_graphs h]) (some (.ref qg)) := by
  intro sz
  refine Met.ofW (cc := cCW_graphOf) (maxL := 3) (ret := (some (.object RFG))) (by decide) rfl ?_
  intro p e s m args below meth c s₁ B hml hv
  obtain ⟨rfl, hsz, hP, hK, hD0⟩ := hv
  have hx := B.exec
  have hb := B.bytes
  have hr := B.returns
  have hts := atoms_spec (ws := wc_CW_graphOf) B.pre
  have hws : ∀ w ∈ WS, w.before _ s = true := fun w h => hts w (List.mem_cons_of_mem _ h)
  have hown : s.vm.findClass RCW = some m.cls := findClass_of_methodNamed B.named
  have hlocks := B.notSynchronized
  subst hsz
  have hD := hD0.self (sz := s.heap.size)
  generalize hAe : va_A (fl [bCW K q_t q_t_ranks q_t_partitions q_t_triangulations q_t_families q_t_graphs q_t_paper q_t_trial q_cu q_dr, bGR K q_t_graphs h]) s.heap.size = A at hD ⊢
  have hA : ∀ q : Nat, s.heap.size ≤ q → A q := fun q h => by rw [← hAe]; exact Or.inr h
  have hS : va_S A s.heap s.heap [] := va_S.rf
  have hl := lv_entry ([.ref q_t, .int (nI 1)]) (n := 3) (Nat.le_of_ble_eq_true rfl)
  rw [lg_entry_eq]
  generalize (lg_sl ([.ref q_t, .int (nI 1)]) ++ List.replicate (3 - (lg_sl ([.ref q_t, .int (nI 1)])).length) Slot.unset).toArray = ls at hl ⊢
  have hl : lv_has ls 3 [(0, .ref q_t), (1, .int (nI 1))] := hl
  generalize ([.ref q_t, .int (nI 1)] : List Value).toArray = args at hts hws ⊢
  generalize hQ : MQ below _ _ _ _ _ _ = Q
  refine lv_aload_n hx hb dCW_graphOf_0 rfl (lv_at hl 0 rfl) ?_
  refine va_get (D := (dC, dI)) (ci := 9) (v := .ref q_t_graphs) (C := RCW) (T := TCW) (N := 9) hx hb hws uwCW hown hK (pB hP 0 rfl) 0 rfl rfl 4 (by decide) (hws _ kf_CW_50) (fun _ h9 => h9) rfl dCW_graphOf_1 ?_
  refine lv_iload_n hx hb dCW_graphOf_4 rfl (lv_at hl 1 rfl) ?_
  refine lx_aald (i := 1) (v := .ref qg) hx hb hK (pB hP 1 rfl) 0 4 rfl rfl (Or.inl ⟨_, rfl⟩) (by decide) (by decide) (by rw [hh]; rfl) dCW_graphOf_5 ?_
  refine lv_astore_n hx hb dCW_graphOf_6 rfl hl (by decide) rfl (fun ls hl => ?_)
  refine lv_aload_n hx hb dCW_graphOf_7 rfl (lv_at hl 0 rfl) ?_
  refine lv_ifnonnull (tgt := 35) hx hb dCW_graphOf_8 (by decide) ?_
  refine lv_aload_n hx hb dCW_graphOf_35 rfl (lv_at hl 0 rfl) ?_
  rw [← hQ]
  exact W.aret hx hb hr (Or.inl ⟨_, rfl⟩) (Or.inr ⟨_, rfl⟩) (fun t ht hW => ⟨⟨rfl, by rw [ht]; exact hP⟩, hS.F ht⟩) hS.2.2 dCW_graphOf_36
def gA1 (K : Nat → ClassId) (q_t q_t_ranks q_t_partitions q_t_triangulations q_t_families q_t_graphs q_t_paper q_t_trial q_cu q_dr : Nat) (h : Nat → Option Nat) (q_t_ranks_counts : Nat) (g_t_ranks_counts : Nat → Nat) (q_t_triangulations_lows q_t_triangulations_highs : Nat) (f_lows f_highs : Nat → Int32) (lk o1 o2 o3 : Nat) (rv : Option Value) (ws : va_W) : Prop := ∃ (qn a1 a2 a3 : Nat), rv = some (.ref qn) ∧ ws = fl [bCW K q_t q_t_ranks q_t_partitions q_t_triangulations q_t_families q_t_graphs q_t_paper q_t_trial q_cu q_dr, bGR K q_t_graphs (va_up h 1 (some qn)), w_FG1 K qn a1 a2 a3 zf zf zf 1 0 lk 0 0, w_RK K q_t_ranks q_t_ranks_counts g_t_ranks_counts, w_TR K q_t_triangulations q_t_triangulations_lows q_t_triangulations_highs f_lows f_highs o1 o2 o3]
abbrev rm_graphA1 : Room := { frames := 5, cells := 10, slots := 69, locals := 114 }
set_option maxHeartbeats 4000000 in
set_option maxRecDepth 100000 in
theorem cn_graphA1 (l : Launch) (dC : Nat → ClassId) (dI : Nat → Nat → Nat) (K : Nat → ClassId) (q_t q_t_ranks q_t_partitions q_t_triangulations q_t_families q_t_graphs q_t_paper q_t_trial q_cu q_dr : Nat) (h : Nat → Option Nat) (hh : h 1 = none) (q_t_ranks_counts : Nat) (g_t_ranks_counts : Nat → Nat) (q_t_triangulations_lows q_t_triangulations_highs : Nat) (f_lows f_highs : Nat → Int32) (z_lows z_highs z_diagonals : Nat) (r : Nat × Nat × Nat × Nat × Nat × Nat × Nat × Nat × Nat × Nat) (hf : f_FG1_init z_lows z_highs z_diagonals = some r) : CtR nwN l (dC, dI) vwCl yCW_graphOf wc_CW_graphOf rm_graphA1 (tyK K) [.ref q_t, .int (nI 1)] (fl [bCW K q_t q_t_ranks q_t_partitions q_t_triangulations q_t_families q_t_graphs q_t_paper q_t_trial q_cu q_dr, bGR K q_t_graphs h, w_RK K q_t_ranks q_t_ranks_counts g_t_ranks_counts, w_TR K q_t_triangulations q_t_triangulations_lows q_t_triangulations_highs f_lows f_highs z_lows z_highs z_diagonals]) (gA1 K q_t q_t_ranks q_t_partitions q_t_triangulations q_t_families q_t_graphs q_t_paper q_t_trial q_cu q_dr h q_t_ranks_counts g_t_ranks_counts q_t_triangulations_lows q_t_triangulations_highs f_lows f_highs r.1 r.2.1 r.2.2.1 r.2.2.2.1) := by
  intro sz
  refine Met.ofW (cc := cCW_graphOf) (maxL := 3) (ret := (some (.object RFG))) (by decide) rfl ?_
  intro p e s m args below meth c s₁ B hml hv
  obtain ⟨rfl, hsz, hP, hK, hD0, hE⟩ := hv
  have hx := B.exec
  have hb := B.bytes
  have hr := B.returns
  have hts := atoms_spec (ws := wc_CW_graphOf) B.pre
  have hws : ∀ w ∈ WS, w.before _ s = true := fun w h => hts w (List.mem_cons_of_mem _ h)
  have hown : s.vm.findClass RCW = some m.cls := findClass_of_methodNamed B.named
  have hlocks := B.notSynchronized
  subst hsz
  have hD := hD0.self (sz := s.heap.size)
  generalize hAe : va_A (fl [bCW K q_t q_t_ranks q_t_partitions q_t_triangulations q_t_families q_t_graphs q_t_paper q_t_trial q_cu q_dr, bGR K q_t_graphs h, w_RK K q_t_ranks q_t_ranks_counts g_t_ranks_counts, w_TR K q_t_triangulations q_t_triangulations_lows q_t_triangulations_highs f_lows f_highs z_lows z_highs z_diagonals]) s.heap.size = A at hD ⊢
  have hA : ∀ q : Nat, s.heap.size ≤ q → A q := fun q h => by rw [← hAe]; exact Or.inr h
  have hS : va_S A s.heap s.heap [] := va_S.rf
  have hl := lv_entry ([.ref q_t, .int (nI 1)]) (n := 3) (Nat.le_of_ble_eq_true rfl)
  rw [lg_entry_eq]
  generalize (lg_sl ([.ref q_t, .int (nI 1)]) ++ List.replicate (3 - (lg_sl ([.ref q_t, .int (nI 1)])).length) Slot.unset).toArray = ls at hl ⊢
  have hl : lv_has ls 3 [(0, .ref q_t), (1, .int (nI 1))] := hl
  generalize ([.ref q_t, .int (nI 1)] : List Value).toArray = args at hts hws ⊢
  generalize hQ : MQ below _ _ _ _ _ _ = Q
  refine lv_aload_n hx hb dCW_graphOf_0 rfl (lv_at hl 0 rfl) ?_
  refine va_get (D := (dC, dI)) (ci := 9) (v := .ref q_t_graphs) (C := RCW) (T := TCW) (N := 9) hx hb hws uwCW hown hK (pB hP 0 rfl) 0 rfl rfl 4 (by decide) (hws _ kf_CW_50) (fun _ h9 => h9) rfl dCW_graphOf_1 ?_
  refine lv_iload_n hx hb dCW_graphOf_4 rfl (lv_at hl 1 rfl) ?_
  refine lx_aald (i := 1) (v := .null) hx hb hK (pB hP 1 rfl) 0 4 rfl rfl (Or.inl ⟨_, rfl⟩) (by decide) (by decide) (by rw [hh]; rfl) dCW_graphOf_5 ?_
  refine lv_astore_nN hx hb dCW_graphOf_6 rfl hl (by decide) rfl (fun ls hl => ?_)
  refine lv_aload_nN hx hb dCW_graphOf_7 rfl (lv_at hl 0 rfl) ?_
  refine lv_ifnonnullN hx hb dCW_graphOf_8 ?_
  refine va_new (ci := 6) (fs := [.int 0, .int 0, .null, .null, .null]) (C := RFG) (T := TFG) (N := 5) hx hb hws uwFG tyFG okFG hown (hws _ kl_CW_48) (hws _ kt_FG) (hws _ kz_FG) hK hP hD hS hA rfl (fun j hj => by rcases (by omega : j = 0 ∨ j = 1 ∨ j = 2 ∨ j = 3 ∨ j = 4) with rfl | rfl | rfl | rfl | rfl <;> rfl) (Nat.le_of_ble_eq_true rfl) (Nat.le_of_ble_eq_true rfl) dCW_graphOf_11 (fun a11 H hP hD hS => ?_)
  refine W.widen (k := 1) (n := 5) (Nat.le_of_ble_eq_true rfl) (Nat.le_of_ble_eq_true rfl) ?_
  rw [← fl_snoc] at hP hD
  have hP := perm_P (cs := [bCW K q_t q_t_ranks q_t_partitions q_t_triangulations q_t_families q_t_graphs q_t_paper q_t_trial q_cu q_dr, bGR K q_t_graphs h, [(a11, .inr (6, [.int 0, .int 0, .null, .null, .null]))], w_RK K q_t_ranks q_t_ranks_counts g_t_ranks_counts, w_TR K q_t_triangulations q_t_triangulations_lows q_t_triangulations_highs f_lows f_highs z_lows z_highs z_diagonals]) hP [0, 1, 4, 2, 3] rfl
  have hD := block_Dsub (cs := [bCW K q_t q_t_ranks q_t_partitions q_t_triangulations q_t_families q_t_graphs q_t_paper q_t_trial q_cu q_dr, bGR K q_t_graphs h, [(a11, .inr (6, [.int 0, .int 0, .null, .null, .null]))], w_RK K q_t_ranks q_t_ranks_counts g_t_ranks_counts, w_TR K q_t_triangulations q_t_triangulations_lows q_t_triangulations_highs f_lows f_highs z_lows z_highs z_diagonals]) hD [0, 1, 4, 2, 3] (by decide) rfl
  refine lv_dup hx hb dCW_graphOf_14 rfl ?_
  refine lv_iload_n hx hb dCW_graphOf_15 rfl (lv_at hl 2 rfl) ?_
  refine lv_aload_n hx hb dCW_graphOf_16 rfl (lv_at hl 1 rfl) ?_
  refine va_get (D := (dC, dI)) (ci := 9) (v := .ref q_t_ranks) (C := RCW) (T := TCW) (N := 9) hx hb hws uwCW hown hK (pB hP 0 rfl) 0 rfl rfl 0 (by decide) (hws _ kf_CW_10) (fun _ h9 => h9) rfl dCW_graphOf_17 ?_
  refine lv_aload_n hx hb dCW_graphOf_20 rfl (lv_at hl 1 rfl) ?_
  refine va_get (D := (dC, dI)) (ci := 9) (v := .ref q_t_triangulations) (C := RCW) (T := TCW) (N := 9) hx hb hws uwCW hown hK (pB hP 0 rfl) 0 rfl rfl 2 (by decide) (hws _ kf_CW_26) (fun _ h9 => h9) rfl dCW_graphOf_21 ?_
  have hP : va_P (dC, dI) vwCl (fl [bCW K q_t q_t_ranks q_t_partitions q_t_triangulations q_t_families q_t_graphs q_t_paper q_t_trial q_cu q_dr, bGR K q_t_graphs h] ++ fl [[(a11, .inr (6, [.int 0, .int 0, .null, .null, .null]))], w_RK K q_t_ranks q_t_ranks_counts g_t_ranks_counts, w_TR K q_t_triangulations q_t_triangulations_lows q_t_triangulations_highs f_lows f_highs z_lows z_highs z_diagonals]) H := by rw [← fl_app]; exact hP
  have hD : va_D A (fl [bCW K q_t q_t_ranks q_t_partitions q_t_triangulations q_t_families q_t_graphs q_t_paper q_t_trial q_cu q_dr, bGR K q_t_graphs h] ++ fl [[(a11, .inr (6, [.int 0, .int 0, .null, .null, .null]))], w_RK K q_t_ranks q_t_ranks_counts g_t_ranks_counts, w_TR K q_t_triangulations q_t_triangulations_lows q_t_triangulations_highs f_lows f_highs z_lows z_highs z_diagonals]) := by rw [← fl_app]; exact hD
  refine cg_call (w0 := fl [bCW K q_t q_t_ranks q_t_partitions q_t_triangulations q_t_families q_t_graphs q_t_paper q_t_trial q_cu q_dr, bGR K q_t_graphs h]) (cs := fl [[(a11, .inr (6, [.int 0, .int 0, .null, .null, .null]))], w_RK K q_t_ranks q_t_ranks_counts g_t_ranks_counts, w_TR K q_t_triangulations q_t_triangulations_lows q_t_triangulations_highs f_lows f_highs z_lows z_highs z_diagonals]) (va_runI (As := [.int (nI 1), .ref q_t_ranks, .ref q_t_triangulations]) (rest := [.ref a11]) ⟨hx, hb, hml, hown, hws⟩ (cn_FG1_init l dC dI K a11 q_t_ranks q_t_ranks_counts g_t_ranks_counts q_t_triangulations q_t_triangulations_lows q_t_triangulations_highs f_lows f_highs z_lows z_highs z_diagonals r hf _) ⟨cb_FG_init hws rm_FG1_init (hws _ km_CW_186) ⟨Nat.le_of_ble_eq_true rfl, Nat.le_of_ble_eq_true rfl⟩, rfl, hws _ ki_FG_init⟩ ⟨cg_blind nwN_same _ _ _, cg_pre (w0 := fl [bCW K q_t q_t_ranks q_t_partitions q_t_triangulations q_t_families q_t_graphs q_t_paper q_t_trial q_cu q_dr, bGR K q_t_graphs h]) (cs := fl [[(a11, .inr (6, [.int 0, .int 0, .null, .null, .null]))], w_RK K q_t_ranks q_t_ranks_counts g_t_ranks_counts, w_TR K q_t_triangulations q_t_triangulations_lows q_t_triangulations_highs f_lows f_highs z_lows z_highs z_diagonals]) nwN_warm hP hD hK hE _⟩ rfl rfl hl.1 rfl (lv_room (Nat.le_of_ble_eq_true rfl)) dCW_graphOf_24 ⟨Nat.le_of_ble_eq_true rfl, Nat.le_of_ble_eq_true rfl⟩) hP hD hS hA (fun g H locs hP hD hS => ?_)
  refine W.widen (k := 10) (n := 69) (Nat.le_of_ble_eq_true rfl) (Nat.le_of_ble_eq_true rfl) ?_
  refine W.eq (g2 := F0 m 27 ls [.ref a11]) rfl ?_
  have hP : va_P (dC, dI) vwCl (fl [bCW K q_t q_t_ranks q_t_partitions q_t_triangulations q_t_families q_t_graphs q_t_paper q_t_trial q_cu q_dr, bGR K q_t_graphs h, w_FG1 K a11 (g 0) (g 1) (g 2) zf zf zf 1 0 r.1 0 0, w_RK K q_t_ranks q_t_ranks_counts g_t_ranks_counts, w_TR K q_t_triangulations q_t_triangulations_lows q_t_triangulations_highs f_lows f_highs r.2.1 r.2.2.1 r.2.2.2.1]) H := by rw [← fl_app] at hP; exact hP
  have hD : va_D A (fl [bCW K q_t q_t_ranks q_t_partitions q_t_triangulations q_t_families q_t_graphs q_t_paper q_t_trial q_cu q_dr, bGR K q_t_graphs h, w_FG1 K a11 (g 0) (g 1) (g 2) zf zf zf 1 0 r.1 0 0, w_RK K q_t_ranks q_t_ranks_counts g_t_ranks_counts, w_TR K q_t_triangulations q_t_triangulations_lows q_t_triangulations_highs f_lows f_highs r.2.1 r.2.2.1 r.2.2.2.1]) := by rw [← fl_app] at hD; exact hD
  refine lv_astore_n hx hb dCW_graphOf_27 rfl hl (by decide) rfl (fun ls hl => ?_)
  refine lv_aload_n hx hb dCW_graphOf_28 rfl (lv_at hl 1 rfl) ?_
  refine va_get (D := (dC, dI)) (ci := 9) (v := .ref q_t_graphs) (C := RCW) (T := TCW) (N := 9) hx hb hws uwCW hown hK (pB hP 0 rfl) 0 rfl rfl 4 (by decide) (hws _ kf_CW_50) (fun _ h9 => h9) rfl dCW_graphOf_29 ?_
  refine lv_iload_n hx hb dCW_graphOf_32 rfl (lv_at hl 2 rfl) ?_
  refine lv_aload_n hx hb dCW_graphOf_33 rfl (lv_at hl 0 rfl) ?_
  refine lx_aastS (r := (RFG, TFG, 5)) hx hb hK hP hD hS (pB hP 2 rfl) 1 4 0 6 rfl rfl rfl rfl (by decide) (by decide) dCW_graphOf_34 (fun H locs hP hD hS => ?_)
  have hP : va_P (dC, dI) vwCl (fl [bCW K q_t q_t_ranks q_t_partitions q_t_triangulations q_t_families q_t_graphs q_t_paper q_t_trial q_cu q_dr, bGR K q_t_graphs (va_up h 1 (some a11)), w_FG1 K a11 (g 0) (g 1) (g 2) zf zf zf 1 0 r.1 0 0, w_RK K q_t_ranks q_t_ranks_counts g_t_ranks_counts, w_TR K q_t_triangulations q_t_triangulations_lows q_t_triangulations_highs f_lows f_highs r.2.1 r.2.2.1 r.2.2.2.1]) H := hP
  have hD : va_D A (fl [bCW K q_t q_t_ranks q_t_partitions q_t_triangulations q_t_families q_t_graphs q_t_paper q_t_trial q_cu q_dr, bGR K q_t_graphs (va_up h 1 (some a11)), w_FG1 K a11 (g 0) (g 1) (g 2) zf zf zf 1 0 r.1 0 0, w_RK K q_t_ranks q_t_ranks_counts g_t_ranks_counts, w_TR K q_t_triangulations q_t_triangulations_lows q_t_triangulations_highs f_lows f_highs r.2.1 r.2.2.1 r.2.2.2.1]) := hD
  refine lv_aload_n hx hb dCW_graphOf_35 rfl (lv_at hl 0 rfl) ?_
  rw [← hQ]
  exact W.aret hx hb hr (Or.inl ⟨_, rfl⟩) (Or.inr ⟨_, rfl⟩) (fun t ht hW => ⟨⟨_, _, rfl, ⟨a11, g 0, g 1, g 2, rfl, rfl⟩, by rw [ht]; exact hP, hD⟩, hS.F ht⟩) hS.2.2 dCW_graphOf_36
set_option maxHeartbeats 4000000 in
theorem ct_graphP2 (l : Launch) (dC : Nat → ClassId) (dI : Nat → Nat → Nat) (K : Nat → ClassId) (q_t q_t_ranks q_t_partitions q_t_triangulations q_t_families q_t_graphs q_t_paper q_t_trial q_cu q_dr : Nat) (h : Nat → Option Nat) (qg : Nat) (hh : h 2 = some qg) : Ct l (dC, dI) vwCl yCW_graphOf wc_CW_graphOf rm_graphP (tyK K) [.ref q_t, .int (nI 2)] (fl [bCW K q_t q_t_ranks q_t_partitions q_t_triangulations q_t_families q_t_graphs q_t_paper q_t_trial q_cu q_dr, bGR K q_t_graphs h]) (fl [bCW K q_t q_t_ranks q_t_partitions q_t_triangulations q_t_families q_t_graphs q_t_paper q_t_trial q_cu q_dr, bGR K q_t_graphs h]) (some (.ref qg)) := by
  intro sz
  refine Met.ofW (cc := cCW_graphOf) (maxL := 3) (ret := (some (.object RFG))) (by decide) rfl ?_
  intro p e s m args below meth c s₁ B hml hv
  obtain ⟨rfl, hsz, hP, hK, hD0⟩ := hv
  have hx := B.exec
  have hb := B.bytes
  have hr := B.returns
  have hts := atoms_spec (ws := wc_CW_graphOf) B.pre
  have hws : ∀ w ∈ WS, w.before _ s = true := fun w h => hts w (List.mem_cons_of_mem _ h)
  have hown : s.vm.findClass RCW = some m.cls := findClass_of_methodNamed B.named
  have hlocks := B.notSynchronized
  subst hsz
  have hD := hD0.self (sz := s.heap.size)
  generalize hAe : va_A (fl [bCW K q_t q_t_ranks q_t_partitions q_t_triangulations q_t_families q_t_graphs q_t_paper q_t_trial q_cu q_dr, bGR K q_t_graphs h]) s.heap.size = A at hD ⊢
  have hA : ∀ q : Nat, s.heap.size ≤ q → A q := fun q h => by rw [← hAe]; exact Or.inr h
  have hS : va_S A s.heap s.heap [] := va_S.rf
  have hl := lv_entry ([.ref q_t, .int (nI 2)]) (n := 3) (Nat.le_of_ble_eq_true rfl)
  rw [lg_entry_eq]
  generalize (lg_sl ([.ref q_t, .int (nI 2)]) ++ List.replicate (3 - (lg_sl ([.ref q_t, .int (nI 2)])).length) Slot.unset).toArray = ls at hl ⊢
  have hl : lv_has ls 3 [(0, .ref q_t), (1, .int (nI 2))] := hl
  generalize ([.ref q_t, .int (nI 2)] : List Value).toArray = args at hts hws ⊢
  generalize hQ : MQ below _ _ _ _ _ _ = Q
  refine lv_aload_n hx hb dCW_graphOf_0 rfl (lv_at hl 0 rfl) ?_
  refine va_get (D := (dC, dI)) (ci := 9) (v := .ref q_t_graphs) (C := RCW) (T := TCW) (N := 9) hx hb hws uwCW hown hK (pB hP 0 rfl) 0 rfl rfl 4 (by decide) (hws _ kf_CW_50) (fun _ h9 => h9) rfl dCW_graphOf_1 ?_
  refine lv_iload_n hx hb dCW_graphOf_4 rfl (lv_at hl 1 rfl) ?_
  refine lx_aald (i := 2) (v := .ref qg) hx hb hK (pB hP 1 rfl) 0 4 rfl rfl (Or.inl ⟨_, rfl⟩) (by decide) (by decide) (by rw [hh]; rfl) dCW_graphOf_5 ?_
  refine lv_astore_n hx hb dCW_graphOf_6 rfl hl (by decide) rfl (fun ls hl => ?_)
  refine lv_aload_n hx hb dCW_graphOf_7 rfl (lv_at hl 0 rfl) ?_
  refine lv_ifnonnull (tgt := 35) hx hb dCW_graphOf_8 (by decide) ?_
  refine lv_aload_n hx hb dCW_graphOf_35 rfl (lv_at hl 0 rfl) ?_
  rw [← hQ]
  exact W.aret hx hb hr (Or.inl ⟨_, rfl⟩) (Or.inr ⟨_, rfl⟩) (fun t ht hW => ⟨⟨rfl, by rw [ht]; exact hP⟩, hS.F ht⟩) hS.2.2 dCW_graphOf_36
def gA2 (K : Nat → ClassId) (q_t q_t_ranks q_t_partitions q_t_triangulations q_t_families q_t_graphs q_t_paper q_t_trial q_cu q_dr : Nat) (h : Nat → Option Nat) (q_t_ranks_counts : Nat) (g_t_ranks_counts : Nat → Nat) (q_t_triangulations_lows q_t_triangulations_highs : Nat) (f_lows f_highs : Nat → Int32) (lk o1 o2 o3 : Nat) (rv : Option Value) (ws : va_W) : Prop := ∃ (qn a1 a2 a3 : Nat), rv = some (.ref qn) ∧ ws = fl [bCW K q_t q_t_ranks q_t_partitions q_t_triangulations q_t_families q_t_graphs q_t_paper q_t_trial q_cu q_dr, bGR K q_t_graphs (va_up h 2 (some qn)), w_FG2 K qn a1 a2 a3 zf zf zf 2 1 lk 0 0, w_RK K q_t_ranks q_t_ranks_counts g_t_ranks_counts, w_TR K q_t_triangulations q_t_triangulations_lows q_t_triangulations_highs f_lows f_highs o1 o2 o3]
abbrev rm_graphA2 : Room := { frames := 5, cells := 10, slots := 73, locals := 114 }
set_option maxHeartbeats 4000000 in
set_option maxRecDepth 100000 in
theorem cn_graphA2 (l : Launch) (dC : Nat → ClassId) (dI : Nat → Nat → Nat) (K : Nat → ClassId) (q_t q_t_ranks q_t_partitions q_t_triangulations q_t_families q_t_graphs q_t_paper q_t_trial q_cu q_dr : Nat) (h : Nat → Option Nat) (hh : h 2 = none) (q_t_ranks_counts : Nat) (g_t_ranks_counts : Nat → Nat) (q_t_triangulations_lows q_t_triangulations_highs : Nat) (f_lows f_highs : Nat → Int32) (z_lows z_highs z_diagonals : Nat) (r : Nat × Nat × Nat × Nat × Nat × Nat × Nat × Nat × Nat × Nat) (hf : f_FG2_init z_lows z_highs z_diagonals = some r) : CtR nwN l (dC, dI) vwCl yCW_graphOf wc_CW_graphOf rm_graphA2 (tyK K) [.ref q_t, .int (nI 2)] (fl [bCW K q_t q_t_ranks q_t_partitions q_t_triangulations q_t_families q_t_graphs q_t_paper q_t_trial q_cu q_dr, bGR K q_t_graphs h, w_RK K q_t_ranks q_t_ranks_counts g_t_ranks_counts, w_TR K q_t_triangulations q_t_triangulations_lows q_t_triangulations_highs f_lows f_highs z_lows z_highs z_diagonals]) (gA2 K q_t q_t_ranks q_t_partitions q_t_triangulations q_t_families q_t_graphs q_t_paper q_t_trial q_cu q_dr h q_t_ranks_counts g_t_ranks_counts q_t_triangulations_lows q_t_triangulations_highs f_lows f_highs r.1 r.2.1 r.2.2.1 r.2.2.2.1) := by
  intro sz
  refine Met.ofW (cc := cCW_graphOf) (maxL := 3) (ret := (some (.object RFG))) (by decide) rfl ?_
  intro p e s m args below meth c s₁ B hml hv
  obtain ⟨rfl, hsz, hP, hK, hD0, hE⟩ := hv
  have hx := B.exec
  have hb := B.bytes
  have hr := B.returns
  have hts := atoms_spec (ws := wc_CW_graphOf) B.pre
  have hws : ∀ w ∈ WS, w.before _ s = true := fun w h => hts w (List.mem_cons_of_mem _ h)
  have hown : s.vm.findClass RCW = some m.cls := findClass_of_methodNamed B.named
  have hlocks := B.notSynchronized
  subst hsz
  have hD := hD0.self (sz := s.heap.size)
  generalize hAe : va_A (fl [bCW K q_t q_t_ranks q_t_partitions q_t_triangulations q_t_families q_t_graphs q_t_paper q_t_trial q_cu q_dr, bGR K q_t_graphs h, w_RK K q_t_ranks q_t_ranks_counts g_t_ranks_counts, w_TR K q_t_triangulations q_t_triangulations_lows q_t_triangulations_highs f_lows f_highs z_lows z_highs z_diagonals]) s.heap.size = A at hD ⊢
  have hA : ∀ q : Nat, s.heap.size ≤ q → A q := fun q h => by rw [← hAe]; exact Or.inr h
  have hS : va_S A s.heap s.heap [] := va_S.rf
  have hl := lv_entry ([.ref q_t, .int (nI 2)]) (n := 3) (Nat.le_of_ble_eq_true rfl)
  rw [lg_entry_eq]
  generalize (lg_sl ([.ref q_t, .int (nI 2)]) ++ List.replicate (3 - (lg_sl ([.ref q_t, .int (nI 2)])).length) Slot.unset).toArray = ls at hl ⊢
  have hl : lv_has ls 3 [(0, .ref q_t), (1, .int (nI 2))] := hl
  generalize ([.ref q_t, .int (nI 2)] : List Value).toArray = args at hts hws ⊢
  generalize hQ : MQ below _ _ _ _ _ _ = Q
  refine lv_aload_n hx hb dCW_graphOf_0 rfl (lv_at hl 0 rfl) ?_
  refine va_get (D := (dC, dI)) (ci := 9) (v := .ref q_t_graphs) (C := RCW) (T := TCW) (N := 9) hx hb hws uwCW hown hK (pB hP 0 rfl) 0 rfl rfl 4 (by decide) (hws _ kf_CW_50) (fun _ h9 => h9) rfl dCW_graphOf_1 ?_
  refine lv_iload_n hx hb dCW_graphOf_4 rfl (lv_at hl 1 rfl) ?_
  refine lx_aald (i := 2) (v := .null) hx hb hK (pB hP 1 rfl) 0 4 rfl rfl (Or.inl ⟨_, rfl⟩) (by decide) (by decide) (by rw [hh]; rfl) dCW_graphOf_5 ?_
  refine lv_astore_nN hx hb dCW_graphOf_6 rfl hl (by decide) rfl (fun ls hl => ?_)
  refine lv_aload_nN hx hb dCW_graphOf_7 rfl (lv_at hl 0 rfl) ?_
  refine lv_ifnonnullN hx hb dCW_graphOf_8 ?_
  refine va_new (ci := 6) (fs := [.int 0, .int 0, .null, .null, .null]) (C := RFG) (T := TFG) (N := 5) hx hb hws uwFG tyFG okFG hown (hws _ kl_CW_48) (hws _ kt_FG) (hws _ kz_FG) hK hP hD hS hA rfl (fun j hj => by rcases (by omega : j = 0 ∨ j = 1 ∨ j = 2 ∨ j = 3 ∨ j = 4) with rfl | rfl | rfl | rfl | rfl <;> rfl) (Nat.le_of_ble_eq_true rfl) (Nat.le_of_ble_eq_true rfl) dCW_graphOf_11 (fun a11 H hP hD hS => ?_)
  refine W.widen (k := 1) (n := 5) (Nat.le_of_ble_eq_true rfl) (Nat.le_of_ble_eq_true rfl) ?_
  rw [← fl_snoc] at hP hD
  have hP := perm_P (cs := [bCW K q_t q_t_ranks q_t_partitions q_t_triangulations q_t_families q_t_graphs q_t_paper q_t_trial q_cu q_dr, bGR K q_t_graphs h, [(a11, .inr (6, [.int 0, .int 0, .null, .null, .null]))], w_RK K q_t_ranks q_t_ranks_counts g_t_ranks_counts, w_TR K q_t_triangulations q_t_triangulations_lows q_t_triangulations_highs f_lows f_highs z_lows z_highs z_diagonals]) hP [0, 1, 4, 2, 3] rfl
  have hD := block_Dsub (cs := [bCW K q_t q_t_ranks q_t_partitions q_t_triangulations q_t_families q_t_graphs q_t_paper q_t_trial q_cu q_dr, bGR K q_t_graphs h, [(a11, .inr (6, [.int 0, .int 0, .null, .null, .null]))], w_RK K q_t_ranks q_t_ranks_counts g_t_ranks_counts, w_TR K q_t_triangulations q_t_triangulations_lows q_t_triangulations_highs f_lows f_highs z_lows z_highs z_diagonals]) hD [0, 1, 4, 2, 3] (by decide) rfl
  refine lv_dup hx hb dCW_graphOf_14 rfl ?_
  refine lv_iload_n hx hb dCW_graphOf_15 rfl (lv_at hl 2 rfl) ?_
  refine lv_aload_n hx hb dCW_graphOf_16 rfl (lv_at hl 1 rfl) ?_
  refine va_get (D := (dC, dI)) (ci := 9) (v := .ref q_t_ranks) (C := RCW) (T := TCW) (N := 9) hx hb hws uwCW hown hK (pB hP 0 rfl) 0 rfl rfl 0 (by decide) (hws _ kf_CW_10) (fun _ h9 => h9) rfl dCW_graphOf_17 ?_
  refine lv_aload_n hx hb dCW_graphOf_20 rfl (lv_at hl 1 rfl) ?_
  refine va_get (D := (dC, dI)) (ci := 9) (v := .ref q_t_triangulations) (C := RCW) (T := TCW) (N := 9) hx hb hws uwCW hown hK (pB hP 0 rfl) 0 rfl rfl 2 (by decide) (hws _ kf_CW_26) (fun _ h9 => h9) rfl dCW_graphOf_21 ?_
  have hP : va_P (dC, dI) vwCl (fl [bCW K q_t q_t_ranks q_t_partitions q_t_triangulations q_t_families q_t_graphs q_t_paper q_t_trial q_cu q_dr, bGR K q_t_graphs h] ++ fl [[(a11, .inr (6, [.int 0, .int 0, .null, .null, .null]))], w_RK K q_t_ranks q_t_ranks_counts g_t_ranks_counts, w_TR K q_t_triangulations q_t_triangulations_lows q_t_triangulations_highs f_lows f_highs z_lows z_highs z_diagonals]) H := by rw [← fl_app]; exact hP
  have hD : va_D A (fl [bCW K q_t q_t_ranks q_t_partitions q_t_triangulations q_t_families q_t_graphs q_t_paper q_t_trial q_cu q_dr, bGR K q_t_graphs h] ++ fl [[(a11, .inr (6, [.int 0, .int 0, .null, .null, .null]))], w_RK K q_t_ranks q_t_ranks_counts g_t_ranks_counts, w_TR K q_t_triangulations q_t_triangulations_lows q_t_triangulations_highs f_lows f_highs z_lows z_highs z_diagonals]) := by rw [← fl_app]; exact hD
  refine cg_call (w0 := fl [bCW K q_t q_t_ranks q_t_partitions q_t_triangulations q_t_families q_t_graphs q_t_paper q_t_trial q_cu q_dr, bGR K q_t_graphs h]) (cs := fl [[(a11, .inr (6, [.int 0, .int 0, .null, .null, .null]))], w_RK K q_t_ranks q_t_ranks_counts g_t_ranks_counts, w_TR K q_t_triangulations q_t_triangulations_lows q_t_triangulations_highs f_lows f_highs z_lows z_highs z_diagonals]) (va_runI (As := [.int (nI 2), .ref q_t_ranks, .ref q_t_triangulations]) (rest := [.ref a11]) ⟨hx, hb, hml, hown, hws⟩ (cn_FG2_init l dC dI K a11 q_t_ranks q_t_ranks_counts g_t_ranks_counts q_t_triangulations q_t_triangulations_lows q_t_triangulations_highs f_lows f_highs z_lows z_highs z_diagonals r hf _) ⟨cb_FG_init hws rm_FG2_init (hws _ km_CW_186) ⟨Nat.le_of_ble_eq_true rfl, Nat.le_of_ble_eq_true rfl⟩, rfl, hws _ ki_FG_init⟩ ⟨cg_blind nwN_same _ _ _, cg_pre (w0 := fl [bCW K q_t q_t_ranks q_t_partitions q_t_triangulations q_t_families q_t_graphs q_t_paper q_t_trial q_cu q_dr, bGR K q_t_graphs h]) (cs := fl [[(a11, .inr (6, [.int 0, .int 0, .null, .null, .null]))], w_RK K q_t_ranks q_t_ranks_counts g_t_ranks_counts, w_TR K q_t_triangulations q_t_triangulations_lows q_t_triangulations_highs f_lows f_highs z_lows z_highs z_diagonals]) nwN_warm hP hD hK hE _⟩ rfl rfl hl.1 rfl (lv_room (Nat.le_of_ble_eq_true rfl)) dCW_graphOf_24 ⟨Nat.le_of_ble_eq_true rfl, Nat.le_of_ble_eq_true rfl⟩) hP hD hS hA (fun g H locs hP hD hS => ?_)
  refine W.widen (k := 10) (n := 73) (Nat.le_of_ble_eq_true rfl) (Nat.le_of_ble_eq_true rfl) ?_
  refine W.eq (g2 := F0 m 27 ls [.ref a11]) rfl ?_
  have hP : va_P (dC, dI) vwCl (fl [bCW K q_t q_t_ranks q_t_partitions q_t_triangulations q_t_families q_t_graphs q_t_paper q_t_trial q_cu q_dr, bGR K q_t_graphs h, w_FG2 K a11 (g 0) (g 1) (g 2) zf zf zf 2 1 r.1 0 0, w_RK K q_t_ranks q_t_ranks_counts g_t_ranks_counts, w_TR K q_t_triangulations q_t_triangulations_lows q_t_triangulations_highs f_lows f_highs r.2.1 r.2.2.1 r.2.2.2.1]) H := by rw [← fl_app] at hP; exact hP
  have hD : va_D A (fl [bCW K q_t q_t_ranks q_t_partitions q_t_triangulations q_t_families q_t_graphs q_t_paper q_t_trial q_cu q_dr, bGR K q_t_graphs h, w_FG2 K a11 (g 0) (g 1) (g 2) zf zf zf 2 1 r.1 0 0, w_RK K q_t_ranks q_t_ranks_counts g_t_ranks_counts, w_TR K q_t_triangulations q_t_triangulations_lows q_t_triangulations_highs f_lows f_highs r.2.1 r.2.2.1 r.2.2.2.1]) := by rw [← fl_app] at hD; exact hD
  refine lv_astore_n hx hb dCW_graphOf_27 rfl hl (by decide) rfl (fun ls hl => ?_)
  refine lv_aload_n hx hb dCW_graphOf_28 rfl (lv_at hl 1 rfl) ?_
  refine va_get (D := (dC, dI)) (ci := 9) (v := .ref q_t_graphs) (C := RCW) (T := TCW) (N := 9) hx hb hws uwCW hown hK (pB hP 0 rfl) 0 rfl rfl 4 (by decide) (hws _ kf_CW_50) (fun _ h9 => h9) rfl dCW_graphOf_29 ?_
  refine lv_iload_n hx hb dCW_graphOf_32 rfl (lv_at hl 2 rfl) ?_
  refine lv_aload_n hx hb dCW_graphOf_33 rfl (lv_at hl 0 rfl) ?_
  refine lx_aastS (r := (RFG, TFG, 5)) hx hb hK hP hD hS (pB hP 2 rfl) 1 4 0 6 rfl rfl rfl rfl (by decide) (by decide) dCW_graphOf_34 (fun H locs hP hD hS => ?_)
  have hP : va_P (dC, dI) vwCl (fl [bCW K q_t q_t_ranks q_t_partitions q_t_triangulations q_t_families q_t_graphs q_t_paper q_t_trial q_cu q_dr, bGR K q_t_graphs (va_up h 2 (some a11)), w_FG2 K a11 (g 0) (g 1) (g 2) zf zf zf 2 1 r.1 0 0, w_RK K q_t_ranks q_t_ranks_counts g_t_ranks_counts, w_TR K q_t_triangulations q_t_triangulations_lows q_t_triangulations_highs f_lows f_highs r.2.1 r.2.2.1 r.2.2.2.1]) H := hP
  have hD : va_D A (fl [bCW K q_t q_t_ranks q_t_partitions q_t_triangulations q_t_families q_t_graphs q_t_paper q_t_trial q_cu q_dr, bGR K q_t_graphs (va_up h 2 (some a11)), w_FG2 K a11 (g 0) (g 1) (g 2) zf zf zf 2 1 r.1 0 0, w_RK K q_t_ranks q_t_ranks_counts g_t_ranks_counts, w_TR K q_t_triangulations q_t_triangulations_lows q_t_triangulations_highs f_lows f_highs r.2.1 r.2.2.1 r.2.2.2.1]) := hD
  refine lv_aload_n hx hb dCW_graphOf_35 rfl (lv_at hl 0 rfl) ?_
  rw [← hQ]
  exact W.aret hx hb hr (Or.inl ⟨_, rfl⟩) (Or.inr ⟨_, rfl⟩) (fun t ht hW => ⟨⟨_, _, rfl, ⟨a11, g 0, g 1, g 2, rfl, rfl⟩, by rw [ht]; exact hP, hD⟩, hS.F ht⟩) hS.2.2 dCW_graphOf_36
set_option maxHeartbeats 4000000 in
theorem ct_graphP3 (l : Launch) (dC : Nat → ClassId) (dI : Nat → Nat → Nat) (K : Nat → ClassId) (q_t q_t_ranks q_t_partitions q_t_triangulations q_t_families q_t_graphs q_t_paper q_t_trial q_cu q_dr : Nat) (h : Nat → Option Nat) (qg : Nat) (hh : h 3 = some qg) : Ct l (dC, dI) vwCl yCW_graphOf wc_CW_graphOf rm_graphP (tyK K) [.ref q_t, .int (nI 3)] (fl [bCW K q_t q_t_ranks q_t_partitions q_t_triangulations q_t_families q_t_graphs q_t_paper q_t_trial q_cu q_dr, bGR K q_t_graphs h]) (fl [bCW K q_t q_t_ranks q_t_partitions q_t_triangulations q_t_families q_t_graphs q_t_paper q_t_trial q_cu q_dr, bGR K q_t_graphs h]) (some (.ref qg)) := by
  intro sz
  refine Met.ofW (cc := cCW_graphOf) (maxL := 3) (ret := (some (.object RFG))) (by decide) rfl ?_
  intro p e s m args below meth c s₁ B hml hv
  obtain ⟨rfl, hsz, hP, hK, hD0⟩ := hv
  have hx := B.exec
  have hb := B.bytes
  have hr := B.returns
  have hts := atoms_spec (ws := wc_CW_graphOf) B.pre
  have hws : ∀ w ∈ WS, w.before _ s = true := fun w h => hts w (List.mem_cons_of_mem _ h)
  have hown : s.vm.findClass RCW = some m.cls := findClass_of_methodNamed B.named
  have hlocks := B.notSynchronized
  subst hsz
  have hD := hD0.self (sz := s.heap.size)
  generalize hAe : va_A (fl [bCW K q_t q_t_ranks q_t_partitions q_t_triangulations q_t_families q_t_graphs q_t_paper q_t_trial q_cu q_dr, bGR K q_t_graphs h]) s.heap.size = A at hD ⊢
  have hA : ∀ q : Nat, s.heap.size ≤ q → A q := fun q h => by rw [← hAe]; exact Or.inr h
  have hS : va_S A s.heap s.heap [] := va_S.rf
  have hl := lv_entry ([.ref q_t, .int (nI 3)]) (n := 3) (Nat.le_of_ble_eq_true rfl)
  rw [lg_entry_eq]
  generalize (lg_sl ([.ref q_t, .int (nI 3)]) ++ List.replicate (3 - (lg_sl ([.ref q_t, .int (nI 3)])).length) Slot.unset).toArray = ls at hl ⊢
  have hl : lv_has ls 3 [(0, .ref q_t), (1, .int (nI 3))] := hl
  generalize ([.ref q_t, .int (nI 3)] : List Value).toArray = args at hts hws ⊢
  generalize hQ : MQ below _ _ _ _ _ _ = Q
  refine lv_aload_n hx hb dCW_graphOf_0 rfl (lv_at hl 0 rfl) ?_
  refine va_get (D := (dC, dI)) (ci := 9) (v := .ref q_t_graphs) (C := RCW) (T := TCW) (N := 9) hx hb hws uwCW hown hK (pB hP 0 rfl) 0 rfl rfl 4 (by decide) (hws _ kf_CW_50) (fun _ h9 => h9) rfl dCW_graphOf_1 ?_
  refine lv_iload_n hx hb dCW_graphOf_4 rfl (lv_at hl 1 rfl) ?_
  refine lx_aald (i := 3) (v := .ref qg) hx hb hK (pB hP 1 rfl) 0 4 rfl rfl (Or.inl ⟨_, rfl⟩) (by decide) (by decide) (by rw [hh]; rfl) dCW_graphOf_5 ?_
  refine lv_astore_n hx hb dCW_graphOf_6 rfl hl (by decide) rfl (fun ls hl => ?_)
  refine lv_aload_n hx hb dCW_graphOf_7 rfl (lv_at hl 0 rfl) ?_
  refine lv_ifnonnull (tgt := 35) hx hb dCW_graphOf_8 (by decide) ?_
  refine lv_aload_n hx hb dCW_graphOf_35 rfl (lv_at hl 0 rfl) ?_
  rw [← hQ]
  exact W.aret hx hb hr (Or.inl ⟨_, rfl⟩) (Or.inr ⟨_, rfl⟩) (fun t ht hW => ⟨⟨rfl, by rw [ht]; exact hP⟩, hS.F ht⟩) hS.2.2 dCW_graphOf_36
def gA3 (K : Nat → ClassId) (q_t q_t_ranks q_t_partitions q_t_triangulations q_t_families q_t_graphs q_t_paper q_t_trial q_cu q_dr : Nat) (h : Nat → Option Nat) (q_t_ranks_counts : Nat) (g_t_ranks_counts : Nat → Nat) (q_t_triangulations_lows q_t_triangulations_highs : Nat) (f_lows f_highs : Nat → Int32) (lk o1 o2 o3 : Nat) (rv : Option Value) (ws : va_W) : Prop := ∃ (qn a1 a2 a3 : Nat), rv = some (.ref qn) ∧ ws = fl [bCW K q_t q_t_ranks q_t_partitions q_t_triangulations q_t_families q_t_graphs q_t_paper q_t_trial q_cu q_dr, bGR K q_t_graphs (va_up h 3 (some qn)), w_FG3 K qn a1 a2 a3 zf zf zf 5 2 lk 0 0, w_RK K q_t_ranks q_t_ranks_counts g_t_ranks_counts, w_TR K q_t_triangulations q_t_triangulations_lows q_t_triangulations_highs f_lows f_highs o1 o2 o3]
abbrev rm_graphA3 : Room := { frames := 5, cells := 10, slots := 87, locals := 114 }
set_option maxHeartbeats 4000000 in
set_option maxRecDepth 100000 in
theorem cn_graphA3 (l : Launch) (dC : Nat → ClassId) (dI : Nat → Nat → Nat) (K : Nat → ClassId) (q_t q_t_ranks q_t_partitions q_t_triangulations q_t_families q_t_graphs q_t_paper q_t_trial q_cu q_dr : Nat) (h : Nat → Option Nat) (hh : h 3 = none) (q_t_ranks_counts : Nat) (g_t_ranks_counts : Nat → Nat) (q_t_triangulations_lows q_t_triangulations_highs : Nat) (f_lows f_highs : Nat → Int32) (z_lows z_highs z_diagonals : Nat) (r : Nat × Nat × Nat × Nat × Nat × Nat × Nat × Nat × Nat × Nat) (hf : f_FG3_init z_lows z_highs z_diagonals = some r) : CtR nwN l (dC, dI) vwCl yCW_graphOf wc_CW_graphOf rm_graphA3 (tyK K) [.ref q_t, .int (nI 3)] (fl [bCW K q_t q_t_ranks q_t_partitions q_t_triangulations q_t_families q_t_graphs q_t_paper q_t_trial q_cu q_dr, bGR K q_t_graphs h, w_RK K q_t_ranks q_t_ranks_counts g_t_ranks_counts, w_TR K q_t_triangulations q_t_triangulations_lows q_t_triangulations_highs f_lows f_highs z_lows z_highs z_diagonals]) (gA3 K q_t q_t_ranks q_t_partitions q_t_triangulations q_t_families q_t_graphs q_t_paper q_t_trial q_cu q_dr h q_t_ranks_counts g_t_ranks_counts q_t_triangulations_lows q_t_triangulations_highs f_lows f_highs r.1 r.2.1 r.2.2.1 r.2.2.2.1) := by
  intro sz
  refine Met.ofW (cc := cCW_graphOf) (maxL := 3) (ret := (some (.object RFG))) (by decide) rfl ?_
  intro p e s m args below meth c s₁ B hml hv
  obtain ⟨rfl, hsz, hP, hK, hD0, hE⟩ := hv
  have hx := B.exec
  have hb := B.bytes
  have hr := B.returns
  have hts := atoms_spec (ws := wc_CW_graphOf) B.pre
  have hws : ∀ w ∈ WS, w.before _ s = true := fun w h => hts w (List.mem_cons_of_mem _ h)
  have hown : s.vm.findClass RCW = some m.cls := findClass_of_methodNamed B.named
  have hlocks := B.notSynchronized
  subst hsz
  have hD := hD0.self (sz := s.heap.size)
  generalize hAe : va_A (fl [bCW K q_t q_t_ranks q_t_partitions q_t_triangulations q_t_families q_t_graphs q_t_paper q_t_trial q_cu q_dr, bGR K q_t_graphs h, w_RK K q_t_ranks q_t_ranks_counts g_t_ranks_counts, w_TR K q_t_triangulations q_t_triangulations_lows q_t_triangulations_highs f_lows f_highs z_lows z_highs z_diagonals]) s.heap.size = A at hD ⊢
  have hA : ∀ q : Nat, s.heap.size ≤ q → A q := fun q h => by rw [← hAe]; exact Or.inr h
  have hS : va_S A s.heap s.heap [] := va_S.rf
  have hl := lv_entry ([.ref q_t, .int (nI 3)]) (n := 3) (Nat.le_of_ble_eq_true rfl)
  rw [lg_entry_eq]
  generalize (lg_sl ([.ref q_t, .int (nI 3)]) ++ List.replicate (3 - (lg_sl ([.ref q_t, .int (nI 3)])).length) Slot.unset).toArray = ls at hl ⊢
  have hl : lv_has ls 3 [(0, .ref q_t), (1, .int (nI 3))] := hl
  generalize ([.ref q_t, .int (nI 3)] : List Value).toArray = args at hts hws ⊢
  generalize hQ : MQ below _ _ _ _ _ _ = Q
  refine lv_aload_n hx hb dCW_graphOf_0 rfl (lv_at hl 0 rfl) ?_
  refine va_get (D := (dC, dI)) (ci := 9) (v := .ref q_t_graphs) (C := RCW) (T := TCW) (N := 9) hx hb hws uwCW hown hK (pB hP 0 rfl) 0 rfl rfl 4 (by decide) (hws _ kf_CW_50) (fun _ h9 => h9) rfl dCW_graphOf_1 ?_
  refine lv_iload_n hx hb dCW_graphOf_4 rfl (lv_at hl 1 rfl) ?_
  refine lx_aald (i := 3) (v := .null) hx hb hK (pB hP 1 rfl) 0 4 rfl rfl (Or.inl ⟨_, rfl⟩) (by decide) (by decide) (by rw [hh]; rfl) dCW_graphOf_5 ?_
  refine lv_astore_nN hx hb dCW_graphOf_6 rfl hl (by decide) rfl (fun ls hl => ?_)
  refine lv_aload_nN hx hb dCW_graphOf_7 rfl (lv_at hl 0 rfl) ?_
  refine lv_ifnonnullN hx hb dCW_graphOf_8 ?_
  refine va_new (ci := 6) (fs := [.int 0, .int 0, .null, .null, .null]) (C := RFG) (T := TFG) (N := 5) hx hb hws uwFG tyFG okFG hown (hws _ kl_CW_48) (hws _ kt_FG) (hws _ kz_FG) hK hP hD hS hA rfl (fun j hj => by rcases (by omega : j = 0 ∨ j = 1 ∨ j = 2 ∨ j = 3 ∨ j = 4) with rfl | rfl | rfl | rfl | rfl <;> rfl) (Nat.le_of_ble_eq_true rfl) (Nat.le_of_ble_eq_true rfl) dCW_graphOf_11 (fun a11 H hP hD hS => ?_)
  refine W.widen (k := 1) (n := 5) (Nat.le_of_ble_eq_true rfl) (Nat.le_of_ble_eq_true rfl) ?_
  rw [← fl_snoc] at hP hD
  have hP := perm_P (cs := [bCW K q_t q_t_ranks q_t_partitions q_t_triangulations q_t_families q_t_graphs q_t_paper q_t_trial q_cu q_dr, bGR K q_t_graphs h, [(a11, .inr (6, [.int 0, .int 0, .null, .null, .null]))], w_RK K q_t_ranks q_t_ranks_counts g_t_ranks_counts, w_TR K q_t_triangulations q_t_triangulations_lows q_t_triangulations_highs f_lows f_highs z_lows z_highs z_diagonals]) hP [0, 1, 4, 2, 3] rfl
  have hD := block_Dsub (cs := [bCW K q_t q_t_ranks q_t_partitions q_t_triangulations q_t_families q_t_graphs q_t_paper q_t_trial q_cu q_dr, bGR K q_t_graphs h, [(a11, .inr (6, [.int 0, .int 0, .null, .null, .null]))], w_RK K q_t_ranks q_t_ranks_counts g_t_ranks_counts, w_TR K q_t_triangulations q_t_triangulations_lows q_t_triangulations_highs f_lows f_highs z_lows z_highs z_diagonals]) hD [0, 1, 4, 2, 3] (by decide) rfl
  refine lv_dup hx hb dCW_graphOf_14 rfl ?_
  refine lv_iload_n hx hb dCW_graphOf_15 rfl (lv_at hl 2 rfl) ?_
  refine lv_aload_n hx hb dCW_graphOf_16 rfl (lv_at hl 1 rfl) ?_
  refine va_get (D := (dC, dI)) (ci := 9) (v := .ref q_t_ranks) (C := RCW) (T := TCW) (N := 9) hx hb hws uwCW hown hK (pB hP 0 rfl) 0 rfl rfl 0 (by decide) (hws _ kf_CW_10) (fun _ h9 => h9) rfl dCW_graphOf_17 ?_
  refine lv_aload_n hx hb dCW_graphOf_20 rfl (lv_at hl 1 rfl) ?_
  refine va_get (D := (dC, dI)) (ci := 9) (v := .ref q_t_triangulations) (C := RCW) (T := TCW) (N := 9) hx hb hws uwCW hown hK (pB hP 0 rfl) 0 rfl rfl 2 (by decide) (hws _ kf_CW_26) (fun _ h9 => h9) rfl dCW_graphOf_21 ?_
  have hP : va_P (dC, dI) vwCl (fl [bCW K q_t q_t_ranks q_t_partitions q_t_triangulations q_t_families q_t_graphs q_t_paper q_t_trial q_cu q_dr, bGR K q_t_graphs h] ++ fl [[(a11, .inr (6, [.int 0, .int 0, .null, .null, .null]))], w_RK K q_t_ranks q_t_ranks_counts g_t_ranks_counts, w_TR K q_t_triangulations q_t_triangulations_lows q_t_triangulations_highs f_lows f_highs z_lows z_highs z_diagonals]) H := by rw [← fl_app]; exact hP
  have hD : va_D A (fl [bCW K q_t q_t_ranks q_t_partitions q_t_triangulations q_t_families q_t_graphs q_t_paper q_t_trial q_cu q_dr, bGR K q_t_graphs h] ++ fl [[(a11, .inr (6, [.int 0, .int 0, .null, .null, .null]))], w_RK K q_t_ranks q_t_ranks_counts g_t_ranks_counts, w_TR K q_t_triangulations q_t_triangulations_lows q_t_triangulations_highs f_lows f_highs z_lows z_highs z_diagonals]) := by rw [← fl_app]; exact hD
  refine cg_call (w0 := fl [bCW K q_t q_t_ranks q_t_partitions q_t_triangulations q_t_families q_t_graphs q_t_paper q_t_trial q_cu q_dr, bGR K q_t_graphs h]) (cs := fl [[(a11, .inr (6, [.int 0, .int 0, .null, .null, .null]))], w_RK K q_t_ranks q_t_ranks_counts g_t_ranks_counts, w_TR K q_t_triangulations q_t_triangulations_lows q_t_triangulations_highs f_lows f_highs z_lows z_highs z_diagonals]) (va_runI (As := [.int (nI 3), .ref q_t_ranks, .ref q_t_triangulations]) (rest := [.ref a11]) ⟨hx, hb, hml, hown, hws⟩ (cn_FG3_init l dC dI K a11 q_t_ranks q_t_ranks_counts g_t_ranks_counts q_t_triangulations q_t_triangulations_lows q_t_triangulations_highs f_lows f_highs z_lows z_highs z_diagonals r hf _) ⟨cb_FG_init hws rm_FG3_init (hws _ km_CW_186) ⟨Nat.le_of_ble_eq_true rfl, Nat.le_of_ble_eq_true rfl⟩, rfl, hws _ ki_FG_init⟩ ⟨cg_blind nwN_same _ _ _, cg_pre (w0 := fl [bCW K q_t q_t_ranks q_t_partitions q_t_triangulations q_t_families q_t_graphs q_t_paper q_t_trial q_cu q_dr, bGR K q_t_graphs h]) (cs := fl [[(a11, .inr (6, [.int 0, .int 0, .null, .null, .null]))], w_RK K q_t_ranks q_t_ranks_counts g_t_ranks_counts, w_TR K q_t_triangulations q_t_triangulations_lows q_t_triangulations_highs f_lows f_highs z_lows z_highs z_diagonals]) nwN_warm hP hD hK hE _⟩ rfl rfl hl.1 rfl (lv_room (Nat.le_of_ble_eq_true rfl)) dCW_graphOf_24 ⟨Nat.le_of_ble_eq_true rfl, Nat.le_of_ble_eq_true rfl⟩) hP hD hS hA (fun g H locs hP hD hS => ?_)
  refine W.widen (k := 10) (n := 87) (Nat.le_of_ble_eq_true rfl) (Nat.le_of_ble_eq_true rfl) ?_
  refine W.eq (g2 := F0 m 27 ls [.ref a11]) rfl ?_
  have hP : va_P (dC, dI) vwCl (fl [bCW K q_t q_t_ranks q_t_partitions q_t_triangulations q_t_families q_t_graphs q_t_paper q_t_trial q_cu q_dr, bGR K q_t_graphs h, w_FG3 K a11 (g 0) (g 1) (g 2) zf zf zf 5 2 r.1 0 0, w_RK K q_t_ranks q_t_ranks_counts g_t_ranks_counts, w_TR K q_t_triangulations q_t_triangulations_lows q_t_triangulations_highs f_lows f_highs r.2.1 r.2.2.1 r.2.2.2.1]) H := by rw [← fl_app] at hP; exact hP
  have hD : va_D A (fl [bCW K q_t q_t_ranks q_t_partitions q_t_triangulations q_t_families q_t_graphs q_t_paper q_t_trial q_cu q_dr, bGR K q_t_graphs h, w_FG3 K a11 (g 0) (g 1) (g 2) zf zf zf 5 2 r.1 0 0, w_RK K q_t_ranks q_t_ranks_counts g_t_ranks_counts, w_TR K q_t_triangulations q_t_triangulations_lows q_t_triangulations_highs f_lows f_highs r.2.1 r.2.2.1 r.2.2.2.1]) := by rw [← fl_app] at hD; exact hD
  refine lv_astore_n hx hb dCW_graphOf_27 rfl hl (by decide) rfl (fun ls hl => ?_)
  refine lv_aload_n hx hb dCW_graphOf_28 rfl (lv_at hl 1 rfl) ?_
  refine va_get (D := (dC, dI)) (ci := 9) (v := .ref q_t_graphs) (C := RCW) (T := TCW) (N := 9) hx hb hws uwCW hown hK (pB hP 0 rfl) 0 rfl rfl 4 (by decide) (hws _ kf_CW_50) (fun _ h9 => h9) rfl dCW_graphOf_29 ?_
  refine lv_iload_n hx hb dCW_graphOf_32 rfl (lv_at hl 2 rfl) ?_
  refine lv_aload_n hx hb dCW_graphOf_33 rfl (lv_at hl 0 rfl) ?_
  refine lx_aastS (r := (RFG, TFG, 5)) hx hb hK hP hD hS (pB hP 2 rfl) 1 4 0 6 rfl rfl rfl rfl (by decide) (by decide) dCW_graphOf_34 (fun H locs hP hD hS => ?_)
  have hP : va_P (dC, dI) vwCl (fl [bCW K q_t q_t_ranks q_t_partitions q_t_triangulations q_t_families q_t_graphs q_t_paper q_t_trial q_cu q_dr, bGR K q_t_graphs (va_up h 3 (some a11)), w_FG3 K a11 (g 0) (g 1) (g 2) zf zf zf 5 2 r.1 0 0, w_RK K q_t_ranks q_t_ranks_counts g_t_ranks_counts, w_TR K q_t_triangulations q_t_triangulations_lows q_t_triangulations_highs f_lows f_highs r.2.1 r.2.2.1 r.2.2.2.1]) H := hP
  have hD : va_D A (fl [bCW K q_t q_t_ranks q_t_partitions q_t_triangulations q_t_families q_t_graphs q_t_paper q_t_trial q_cu q_dr, bGR K q_t_graphs (va_up h 3 (some a11)), w_FG3 K a11 (g 0) (g 1) (g 2) zf zf zf 5 2 r.1 0 0, w_RK K q_t_ranks q_t_ranks_counts g_t_ranks_counts, w_TR K q_t_triangulations q_t_triangulations_lows q_t_triangulations_highs f_lows f_highs r.2.1 r.2.2.1 r.2.2.2.1]) := hD
  refine lv_aload_n hx hb dCW_graphOf_35 rfl (lv_at hl 0 rfl) ?_
  rw [← hQ]
  exact W.aret hx hb hr (Or.inl ⟨_, rfl⟩) (Or.inr ⟨_, rfl⟩) (fun t ht hW => ⟨⟨_, _, rfl, ⟨a11, g 0, g 1, g 2, rfl, rfl⟩, by rw [ht]; exact hP, hD⟩, hS.F ht⟩) hS.2.2 dCW_graphOf_36
set_option maxHeartbeats 4000000 in
theorem ct_graphP4 (l : Launch) (dC : Nat → ClassId) (dI : Nat → Nat → Nat) (K : Nat → ClassId) (q_t q_t_ranks q_t_partitions q_t_triangulations q_t_families q_t_graphs q_t_paper q_t_trial q_cu q_dr : Nat) (h : Nat → Option Nat) (qg : Nat) (hh : h 4 = some qg) : Ct l (dC, dI) vwCl yCW_graphOf wc_CW_graphOf rm_graphP (tyK K) [.ref q_t, .int (nI 4)] (fl [bCW K q_t q_t_ranks q_t_partitions q_t_triangulations q_t_families q_t_graphs q_t_paper q_t_trial q_cu q_dr, bGR K q_t_graphs h]) (fl [bCW K q_t q_t_ranks q_t_partitions q_t_triangulations q_t_families q_t_graphs q_t_paper q_t_trial q_cu q_dr, bGR K q_t_graphs h]) (some (.ref qg)) := by
  intro sz
  refine Met.ofW (cc := cCW_graphOf) (maxL := 3) (ret := (some (.object RFG))) (by decide) rfl ?_
  intro p e s m args below meth c s₁ B hml hv
  obtain ⟨rfl, hsz, hP, hK, hD0⟩ := hv
  have hx := B.exec
  have hb := B.bytes
  have hr := B.returns
  have hts := atoms_spec (ws := wc_CW_graphOf) B.pre
  have hws : ∀ w ∈ WS, w.before _ s = true := fun w h => hts w (List.mem_cons_of_mem _ h)
  have hown : s.vm.findClass RCW = some m.cls := findClass_of_methodNamed B.named
  have hlocks := B.notSynchronized
  subst hsz
  have hD := hD0.self (sz := s.heap.size)
  generalize hAe : va_A (fl [bCW K q_t q_t_ranks q_t_partitions q_t_triangulations q_t_families q_t_graphs q_t_paper q_t_trial q_cu q_dr, bGR K q_t_graphs h]) s.heap.size = A at hD ⊢
  have hA : ∀ q : Nat, s.heap.size ≤ q → A q := fun q h => by rw [← hAe]; exact Or.inr h
  have hS : va_S A s.heap s.heap [] := va_S.rf
  have hl := lv_entry ([.ref q_t, .int (nI 4)]) (n := 3) (Nat.le_of_ble_eq_true rfl)
  rw [lg_entry_eq]
  generalize (lg_sl ([.ref q_t, .int (nI 4)]) ++ List.replicate (3 - (lg_sl ([.ref q_t, .int (nI 4)])).length) Slot.unset).toArray = ls at hl ⊢
  have hl : lv_has ls 3 [(0, .ref q_t), (1, .int (nI 4))] := hl
  generalize ([.ref q_t, .int (nI 4)] : List Value).toArray = args at hts hws ⊢
  generalize hQ : MQ below _ _ _ _ _ _ = Q
  refine lv_aload_n hx hb dCW_graphOf_0 rfl (lv_at hl 0 rfl) ?_
  refine va_get (D := (dC, dI)) (ci := 9) (v := .ref q_t_graphs) (C := RCW) (T := TCW) (N := 9) hx hb hws uwCW hown hK (pB hP 0 rfl) 0 rfl rfl 4 (by decide) (hws _ kf_CW_50) (fun _ h9 => h9) rfl dCW_graphOf_1 ?_
  refine lv_iload_n hx hb dCW_graphOf_4 rfl (lv_at hl 1 rfl) ?_
  refine lx_aald (i := 4) (v := .ref qg) hx hb hK (pB hP 1 rfl) 0 4 rfl rfl (Or.inl ⟨_, rfl⟩) (by decide) (by decide) (by rw [hh]; rfl) dCW_graphOf_5 ?_
  refine lv_astore_n hx hb dCW_graphOf_6 rfl hl (by decide) rfl (fun ls hl => ?_)
  refine lv_aload_n hx hb dCW_graphOf_7 rfl (lv_at hl 0 rfl) ?_
  refine lv_ifnonnull (tgt := 35) hx hb dCW_graphOf_8 (by decide) ?_
  refine lv_aload_n hx hb dCW_graphOf_35 rfl (lv_at hl 0 rfl) ?_
  rw [← hQ]
  exact W.aret hx hb hr (Or.inl ⟨_, rfl⟩) (Or.inr ⟨_, rfl⟩) (fun t ht hW => ⟨⟨rfl, by rw [ht]; exact hP⟩, hS.F ht⟩) hS.2.2 dCW_graphOf_36
def gA4 (K : Nat → ClassId) (q_t q_t_ranks q_t_partitions q_t_triangulations q_t_families q_t_graphs q_t_paper q_t_trial q_cu q_dr : Nat) (h : Nat → Option Nat) (q_t_ranks_counts : Nat) (g_t_ranks_counts : Nat → Nat) (q_t_triangulations_lows q_t_triangulations_highs : Nat) (f_lows f_highs : Nat → Int32) (lk o1 o2 o3 : Nat) (rv : Option Value) (ws : va_W) : Prop := ∃ (qn a1 a2 a3 : Nat), rv = some (.ref qn) ∧ ws = fl [bCW K q_t q_t_ranks q_t_partitions q_t_triangulations q_t_families q_t_graphs q_t_paper q_t_trial q_cu q_dr, bGR K q_t_graphs (va_up h 4 (some qn)), w_FG4 K qn a1 a2 a3 zf zf zf 14 3 lk 0 0, w_RK K q_t_ranks q_t_ranks_counts g_t_ranks_counts, w_TR K q_t_triangulations q_t_triangulations_lows q_t_triangulations_highs f_lows f_highs o1 o2 o3]
abbrev rm_graphA4 : Room := { frames := 5, cells := 10, slots := 137, locals := 114 }
set_option maxHeartbeats 4000000 in
set_option maxRecDepth 100000 in
theorem cn_graphA4 (l : Launch) (dC : Nat → ClassId) (dI : Nat → Nat → Nat) (K : Nat → ClassId) (q_t q_t_ranks q_t_partitions q_t_triangulations q_t_families q_t_graphs q_t_paper q_t_trial q_cu q_dr : Nat) (h : Nat → Option Nat) (hh : h 4 = none) (q_t_ranks_counts : Nat) (g_t_ranks_counts : Nat → Nat) (q_t_triangulations_lows q_t_triangulations_highs : Nat) (f_lows f_highs : Nat → Int32) (z_lows z_highs z_diagonals : Nat) (r : Nat × Nat × Nat × Nat × Nat × Nat × Nat × Nat × Nat × Nat) (hf : f_FG4_init z_lows z_highs z_diagonals = some r) : CtR nwN l (dC, dI) vwCl yCW_graphOf wc_CW_graphOf rm_graphA4 (tyK K) [.ref q_t, .int (nI 4)] (fl [bCW K q_t q_t_ranks q_t_partitions q_t_triangulations q_t_families q_t_graphs q_t_paper q_t_trial q_cu q_dr, bGR K q_t_graphs h, w_RK K q_t_ranks q_t_ranks_counts g_t_ranks_counts, w_TR K q_t_triangulations q_t_triangulations_lows q_t_triangulations_highs f_lows f_highs z_lows z_highs z_diagonals]) (gA4 K q_t q_t_ranks q_t_partitions q_t_triangulations q_t_families q_t_graphs q_t_paper q_t_trial q_cu q_dr h q_t_ranks_counts g_t_ranks_counts q_t_triangulations_lows q_t_triangulations_highs f_lows f_highs r.1 r.2.1 r.2.2.1 r.2.2.2.1) := by
  intro sz
  refine Met.ofW (cc := cCW_graphOf) (maxL := 3) (ret := (some (.object RFG))) (by decide) rfl ?_
  intro p e s m args below meth c s₁ B hml hv
  obtain ⟨rfl, hsz, hP, hK, hD0, hE⟩ := hv
  have hx := B.exec
  have hb := B.bytes
  have hr := B.returns
  have hts := atoms_spec (ws := wc_CW_graphOf) B.pre
  have hws : ∀ w ∈ WS, w.before _ s = true := fun w h => hts w (List.mem_cons_of_mem _ h)
  have hown : s.vm.findClass RCW = some m.cls := findClass_of_methodNamed B.named
  have hlocks := B.notSynchronized
  subst hsz
  have hD := hD0.self (sz := s.heap.size)
  generalize hAe : va_A (fl [bCW K q_t q_t_ranks q_t_partitions q_t_triangulations q_t_families q_t_graphs q_t_paper q_t_trial q_cu q_dr, bGR K q_t_graphs h, w_RK K q_t_ranks q_t_ranks_counts g_t_ranks_counts, w_TR K q_t_triangulations q_t_triangulations_lows q_t_triangulations_highs f_lows f_highs z_lows z_highs z_diagonals]) s.heap.size = A at hD ⊢
  have hA : ∀ q : Nat, s.heap.size ≤ q → A q := fun q h => by rw [← hAe]; exact Or.inr h
  have hS : va_S A s.heap s.heap [] := va_S.rf
  have hl := lv_entry ([.ref q_t, .int (nI 4)]) (n := 3) (Nat.le_of_ble_eq_true rfl)
  rw [lg_entry_eq]
  generalize (lg_sl ([.ref q_t, .int (nI 4)]) ++ List.replicate (3 - (lg_sl ([.ref q_t, .int (nI 4)])).length) Slot.unset).toArray = ls at hl ⊢
  have hl : lv_has ls 3 [(0, .ref q_t), (1, .int (nI 4))] := hl
  generalize ([.ref q_t, .int (nI 4)] : List Value).toArray = args at hts hws ⊢
  generalize hQ : MQ below _ _ _ _ _ _ = Q
  refine lv_aload_n hx hb dCW_graphOf_0 rfl (lv_at hl 0 rfl) ?_
  refine va_get (D := (dC, dI)) (ci := 9) (v := .ref q_t_graphs) (C := RCW) (T := TCW) (N := 9) hx hb hws uwCW hown hK (pB hP 0 rfl) 0 rfl rfl 4 (by decide) (hws _ kf_CW_50) (fun _ h9 => h9) rfl dCW_graphOf_1 ?_
  refine lv_iload_n hx hb dCW_graphOf_4 rfl (lv_at hl 1 rfl) ?_
  refine lx_aald (i := 4) (v := .null) hx hb hK (pB hP 1 rfl) 0 4 rfl rfl (Or.inl ⟨_, rfl⟩) (by decide) (by decide) (by rw [hh]; rfl) dCW_graphOf_5 ?_
  refine lv_astore_nN hx hb dCW_graphOf_6 rfl hl (by decide) rfl (fun ls hl => ?_)
  refine lv_aload_nN hx hb dCW_graphOf_7 rfl (lv_at hl 0 rfl) ?_
  refine lv_ifnonnullN hx hb dCW_graphOf_8 ?_
  refine va_new (ci := 6) (fs := [.int 0, .int 0, .null, .null, .null]) (C := RFG) (T := TFG) (N := 5) hx hb hws uwFG tyFG okFG hown (hws _ kl_CW_48) (hws _ kt_FG) (hws _ kz_FG) hK hP hD hS hA rfl (fun j hj => by rcases (by omega : j = 0 ∨ j = 1 ∨ j = 2 ∨ j = 3 ∨ j = 4) with rfl | rfl | rfl | rfl | rfl <;> rfl) (Nat.le_of_ble_eq_true rfl) (Nat.le_of_ble_eq_true rfl) dCW_graphOf_11 (fun a11 H hP hD hS => ?_)
  refine W.widen (k := 1) (n := 5) (Nat.le_of_ble_eq_true rfl) (Nat.le_of_ble_eq_true rfl) ?_
  rw [← fl_snoc] at hP hD
  have hP := perm_P (cs := [bCW K q_t q_t_ranks q_t_partitions q_t_triangulations q_t_families q_t_graphs q_t_paper q_t_trial q_cu q_dr, bGR K q_t_graphs h, [(a11, .inr (6, [.int 0, .int 0, .null, .null, .null]))], w_RK K q_t_ranks q_t_ranks_counts g_t_ranks_counts, w_TR K q_t_triangulations q_t_triangulations_lows q_t_triangulations_highs f_lows f_highs z_lows z_highs z_diagonals]) hP [0, 1, 4, 2, 3] rfl
  have hD := block_Dsub (cs := [bCW K q_t q_t_ranks q_t_partitions q_t_triangulations q_t_families q_t_graphs q_t_paper q_t_trial q_cu q_dr, bGR K q_t_graphs h, [(a11, .inr (6, [.int 0, .int 0, .null, .null, .null]))], w_RK K q_t_ranks q_t_ranks_counts g_t_ranks_counts, w_TR K q_t_triangulations q_t_triangulations_lows q_t_triangulations_highs f_lows f_highs z_lows z_highs z_diagonals]) hD [0, 1, 4, 2, 3] (by decide) rfl
  refine lv_dup hx hb dCW_graphOf_14 rfl ?_
  refine lv_iload_n hx hb dCW_graphOf_15 rfl (lv_at hl 2 rfl) ?_
  refine lv_aload_n hx hb dCW_graphOf_16 rfl (lv_at hl 1 rfl) ?_
  refine va_get (D := (dC, dI)) (ci := 9) (v := .ref q_t_ranks) (C := RCW) (T := TCW) (N := 9) hx hb hws uwCW hown hK (pB hP 0 rfl) 0 rfl rfl 0 (by decide) (hws _ kf_CW_10) (fun _ h9 => h9) rfl dCW_graphOf_17 ?_
  refine lv_aload_n hx hb dCW_graphOf_20 rfl (lv_at hl 1 rfl) ?_
  refine va_get (D := (dC, dI)) (ci := 9) (v := .ref q_t_triangulations) (C := RCW) (T := TCW) (N := 9) hx hb hws uwCW hown hK (pB hP 0 rfl) 0 rfl rfl 2 (by decide) (hws _ kf_CW_26) (fun _ h9 => h9) rfl dCW_graphOf_21 ?_
  have hP : va_P (dC, dI) vwCl (fl [bCW K q_t q_t_ranks q_t_partitions q_t_triangulations q_t_families q_t_graphs q_t_paper q_t_trial q_cu q_dr, bGR K q_t_graphs h] ++ fl [[(a11, .inr (6, [.int 0, .int 0, .null, .null, .null]))], w_RK K q_t_ranks q_t_ranks_counts g_t_ranks_counts, w_TR K q_t_triangulations q_t_triangulations_lows q_t_triangulations_highs f_lows f_highs z_lows z_highs z_diagonals]) H := by rw [← fl_app]; exact hP
  have hD : va_D A (fl [bCW K q_t q_t_ranks q_t_partitions q_t_triangulations q_t_families q_t_graphs q_t_paper q_t_trial q_cu q_dr, bGR K q_t_graphs h] ++ fl [[(a11, .inr (6, [.int 0, .int 0, .null, .null, .null]))], w_RK K q_t_ranks q_t_ranks_counts g_t_ranks_counts, w_TR K q_t_triangulations q_t_triangulations_lows q_t_triangulations_highs f_lows f_highs z_lows z_highs z_diagonals]) := by rw [← fl_app]; exact hD
  refine cg_call (w0 := fl [bCW K q_t q_t_ranks q_t_partitions q_t_triangulations q_t_families q_t_graphs q_t_paper q_t_trial q_cu q_dr, bGR K q_t_graphs h]) (cs := fl [[(a11, .inr (6, [.int 0, .int 0, .null, .null, .null]))], w_RK K q_t_ranks q_t_ranks_counts g_t_ranks_counts, w_TR K q_t_triangulations q_t_triangulations_lows q_t_triangulations_highs f_lows f_highs z_lows z_highs z_diagonals]) (va_runI (As := [.int (nI 4), .ref q_t_ranks, .ref q_t_triangulations]) (rest := [.ref a11]) ⟨hx, hb, hml, hown, hws⟩ (cn_FG4_init l dC dI K a11 q_t_ranks q_t_ranks_counts g_t_ranks_counts q_t_triangulations q_t_triangulations_lows q_t_triangulations_highs f_lows f_highs z_lows z_highs z_diagonals r hf _) ⟨cb_FG_init hws rm_FG4_init (hws _ km_CW_186) ⟨Nat.le_of_ble_eq_true rfl, Nat.le_of_ble_eq_true rfl⟩, rfl, hws _ ki_FG_init⟩ ⟨cg_blind nwN_same _ _ _, cg_pre (w0 := fl [bCW K q_t q_t_ranks q_t_partitions q_t_triangulations q_t_families q_t_graphs q_t_paper q_t_trial q_cu q_dr, bGR K q_t_graphs h]) (cs := fl [[(a11, .inr (6, [.int 0, .int 0, .null, .null, .null]))], w_RK K q_t_ranks q_t_ranks_counts g_t_ranks_counts, w_TR K q_t_triangulations q_t_triangulations_lows q_t_triangulations_highs f_lows f_highs z_lows z_highs z_diagonals]) nwN_warm hP hD hK hE _⟩ rfl rfl hl.1 rfl (lv_room (Nat.le_of_ble_eq_true rfl)) dCW_graphOf_24 ⟨Nat.le_of_ble_eq_true rfl, Nat.le_of_ble_eq_true rfl⟩) hP hD hS hA (fun g H locs hP hD hS => ?_)
  refine W.widen (k := 10) (n := 137) (Nat.le_of_ble_eq_true rfl) (Nat.le_of_ble_eq_true rfl) ?_
  refine W.eq (g2 := F0 m 27 ls [.ref a11]) rfl ?_
  have hP : va_P (dC, dI) vwCl (fl [bCW K q_t q_t_ranks q_t_partitions q_t_triangulations q_t_families q_t_graphs q_t_paper q_t_trial q_cu q_dr, bGR K q_t_graphs h, w_FG4 K a11 (g 0) (g 1) (g 2) zf zf zf 14 3 r.1 0 0, w_RK K q_t_ranks q_t_ranks_counts g_t_ranks_counts, w_TR K q_t_triangulations q_t_triangulations_lows q_t_triangulations_highs f_lows f_highs r.2.1 r.2.2.1 r.2.2.2.1]) H := by rw [← fl_app] at hP; exact hP
  have hD : va_D A (fl [bCW K q_t q_t_ranks q_t_partitions q_t_triangulations q_t_families q_t_graphs q_t_paper q_t_trial q_cu q_dr, bGR K q_t_graphs h, w_FG4 K a11 (g 0) (g 1) (g 2) zf zf zf 14 3 r.1 0 0, w_RK K q_t_ranks q_t_ranks_counts g_t_ranks_counts, w_TR K q_t_triangulations q_t_triangulations_lows q_t_triangulations_highs f_lows f_highs r.2.1 r.2.2.1 r.2.2.2.1]) := by rw [← fl_app] at hD; exact hD
  refine lv_astore_n hx hb dCW_graphOf_27 rfl hl (by decide) rfl (fun ls hl => ?_)
  refine lv_aload_n hx hb dCW_graphOf_28 rfl (lv_at hl 1 rfl) ?_
  refine va_get (D := (dC, dI)) (ci := 9) (v := .ref q_t_graphs) (C := RCW) (T := TCW) (N := 9) hx hb hws uwCW hown hK (pB hP 0 rfl) 0 rfl rfl 4 (by decide) (hws _ kf_CW_50) (fun _ h9 => h9) rfl dCW_graphOf_29 ?_
  refine lv_iload_n hx hb dCW_graphOf_32 rfl (lv_at hl 2 rfl) ?_
  refine lv_aload_n hx hb dCW_graphOf_33 rfl (lv_at hl 0 rfl) ?_
  refine lx_aastS (r := (RFG, TFG, 5)) hx hb hK hP hD hS (pB hP 2 rfl) 1 4 0 6 rfl rfl rfl rfl (by decide) (by decide) dCW_graphOf_34 (fun H locs hP hD hS => ?_)
  have hP : va_P (dC, dI) vwCl (fl [bCW K q_t q_t_ranks q_t_partitions q_t_triangulations q_t_families q_t_graphs q_t_paper q_t_trial q_cu q_dr, bGR K q_t_graphs (va_up h 4 (some a11)), w_FG4 K a11 (g 0) (g 1) (g 2) zf zf zf 14 3 r.1 0 0, w_RK K q_t_ranks q_t_ranks_counts g_t_ranks_counts, w_TR K q_t_triangulations q_t_triangulations_lows q_t_triangulations_highs f_lows f_highs r.2.1 r.2.2.1 r.2.2.2.1]) H := hP
  have hD : va_D A (fl [bCW K q_t q_t_ranks q_t_partitions q_t_triangulations q_t_families q_t_graphs q_t_paper q_t_trial q_cu q_dr, bGR K q_t_graphs (va_up h 4 (some a11)), w_FG4 K a11 (g 0) (g 1) (g 2) zf zf zf 14 3 r.1 0 0, w_RK K q_t_ranks q_t_ranks_counts g_t_ranks_counts, w_TR K q_t_triangulations q_t_triangulations_lows q_t_triangulations_highs f_lows f_highs r.2.1 r.2.2.1 r.2.2.2.1]) := hD
  refine lv_aload_n hx hb dCW_graphOf_35 rfl (lv_at hl 0 rfl) ?_
  rw [← hQ]
  exact W.aret hx hb hr (Or.inl ⟨_, rfl⟩) (Or.inr ⟨_, rfl⟩) (fun t ht hW => ⟨⟨_, _, rfl, ⟨a11, g 0, g 1, g 2, rfl, rfl⟩, by rw [ht]; exact hP, hD⟩, hS.F ht⟩) hS.2.2 dCW_graphOf_36
set_option maxHeartbeats 4000000 in
theorem ct_graphP5 (l : Launch) (dC : Nat → ClassId) (dI : Nat → Nat → Nat) (K : Nat → ClassId) (q_t q_t_ranks q_t_partitions q_t_triangulations q_t_families q_t_graphs q_t_paper q_t_trial q_cu q_dr : Nat) (h : Nat → Option Nat) (qg : Nat) (hh : h 5 = some qg) : Ct l (dC, dI) vwCl yCW_graphOf wc_CW_graphOf rm_graphP (tyK K) [.ref q_t, .int (nI 5)] (fl [bCW K q_t q_t_ranks q_t_partitions q_t_triangulations q_t_families q_t_graphs q_t_paper q_t_trial q_cu q_dr, bGR K q_t_graphs h]) (fl [bCW K q_t q_t_ranks q_t_partitions q_t_triangulations q_t_families q_t_graphs q_t_paper q_t_trial q_cu q_dr, bGR K q_t_graphs h]) (some (.ref qg)) := by
  intro sz
  refine Met.ofW (cc := cCW_graphOf) (maxL := 3) (ret := (some (.object RFG))) (by decide) rfl ?_
  intro p e s m args below meth c s₁ B hml hv
  obtain ⟨rfl, hsz, hP, hK, hD0⟩ := hv
  have hx := B.exec
  have hb := B.bytes
  have hr := B.returns
  have hts := atoms_spec (ws := wc_CW_graphOf) B.pre
  have hws : ∀ w ∈ WS, w.before _ s = true := fun w h => hts w (List.mem_cons_of_mem _ h)
  have hown : s.vm.findClass RCW = some m.cls := findClass_of_methodNamed B.named
  have hlocks := B.notSynchronized
  subst hsz
  have hD := hD0.self (sz := s.heap.size)
  generalize hAe : va_A (fl [bCW K q_t q_t_ranks q_t_partitions q_t_triangulations q_t_families q_t_graphs q_t_paper q_t_trial q_cu q_dr, bGR K q_t_graphs h]) s.heap.size = A at hD ⊢
  have hA : ∀ q : Nat, s.heap.size ≤ q → A q := fun q h => by rw [← hAe]; exact Or.inr h
  have hS : va_S A s.heap s.heap [] := va_S.rf
  have hl := lv_entry ([.ref q_t, .int (nI 5)]) (n := 3) (Nat.le_of_ble_eq_true rfl)
  rw [lg_entry_eq]
  generalize (lg_sl ([.ref q_t, .int (nI 5)]) ++ List.replicate (3 - (lg_sl ([.ref q_t, .int (nI 5)])).length) Slot.unset).toArray = ls at hl ⊢
  have hl : lv_has ls 3 [(0, .ref q_t), (1, .int (nI 5))] := hl
  generalize ([.ref q_t, .int (nI 5)] : List Value).toArray = args at hts hws ⊢
  generalize hQ : MQ below _ _ _ _ _ _ = Q
  refine lv_aload_n hx hb dCW_graphOf_0 rfl (lv_at hl 0 rfl) ?_
  refine va_get (D := (dC, dI)) (ci := 9) (v := .ref q_t_graphs) (C := RCW) (T := TCW) (N := 9) hx hb hws uwCW hown hK (pB hP 0 rfl) 0 rfl rfl 4 (by decide) (hws _ kf_CW_50) (fun _ h9 => h9) rfl dCW_graphOf_1 ?_
  refine lv_iload_n hx hb dCW_graphOf_4 rfl (lv_at hl 1 rfl) ?_
  refine lx_aald (i := 5) (v := .ref qg) hx hb hK (pB hP 1 rfl) 0 4 rfl rfl (Or.inl ⟨_, rfl⟩) (by decide) (by decide) (by rw [hh]; rfl) dCW_graphOf_5 ?_
  refine lv_astore_n hx hb dCW_graphOf_6 rfl hl (by decide) rfl (fun ls hl => ?_)
  refine lv_aload_n hx hb dCW_graphOf_7 rfl (lv_at hl 0 rfl) ?_
  refine lv_ifnonnull (tgt := 35) hx hb dCW_graphOf_8 (by decide) ?_
  refine lv_aload_n hx hb dCW_graphOf_35 rfl (lv_at hl 0 rfl) ?_
  rw [← hQ]
  exact W.aret hx hb hr (Or.inl ⟨_, rfl⟩) (Or.inr ⟨_, rfl⟩) (fun t ht hW => ⟨⟨rfl, by rw [ht]; exact hP⟩, hS.F ht⟩) hS.2.2 dCW_graphOf_36
def gA5 (K : Nat → ClassId) (q_t q_t_ranks q_t_partitions q_t_triangulations q_t_families q_t_graphs q_t_paper q_t_trial q_cu q_dr : Nat) (h : Nat → Option Nat) (q_t_ranks_counts : Nat) (g_t_ranks_counts : Nat → Nat) (q_t_triangulations_lows q_t_triangulations_highs : Nat) (f_lows f_highs : Nat → Int32) (lk o1 o2 o3 : Nat) (rv : Option Value) (ws : va_W) : Prop := ∃ (qn a1 a2 a3 : Nat), rv = some (.ref qn) ∧ ws = fl [bCW K q_t q_t_ranks q_t_partitions q_t_triangulations q_t_families q_t_graphs q_t_paper q_t_trial q_cu q_dr, bGR K q_t_graphs (va_up h 5 (some qn)), w_FG5 K qn a1 a2 a3 zf zf zf 42 4 lk 0 0, w_RK K q_t_ranks q_t_ranks_counts g_t_ranks_counts, w_TR K q_t_triangulations q_t_triangulations_lows q_t_triangulations_highs f_lows f_highs o1 o2 o3]
abbrev rm_graphA5 : Room := { frames := 5, cells := 10, slots := 319, locals := 114 }
set_option maxHeartbeats 4000000 in
set_option maxRecDepth 100000 in
theorem cn_graphA5 (l : Launch) (dC : Nat → ClassId) (dI : Nat → Nat → Nat) (K : Nat → ClassId) (q_t q_t_ranks q_t_partitions q_t_triangulations q_t_families q_t_graphs q_t_paper q_t_trial q_cu q_dr : Nat) (h : Nat → Option Nat) (hh : h 5 = none) (q_t_ranks_counts : Nat) (g_t_ranks_counts : Nat → Nat) (q_t_triangulations_lows q_t_triangulations_highs : Nat) (f_lows f_highs : Nat → Int32) (z_lows z_highs z_diagonals : Nat) (r : Nat × Nat × Nat × Nat × Nat × Nat × Nat × Nat × Nat × Nat) (hf : f_FG5_init z_lows z_highs z_diagonals = some r) : CtR nwN l (dC, dI) vwCl yCW_graphOf wc_CW_graphOf rm_graphA5 (tyK K) [.ref q_t, .int (nI 5)] (fl [bCW K q_t q_t_ranks q_t_partitions q_t_triangulations q_t_families q_t_graphs q_t_paper q_t_trial q_cu q_dr, bGR K q_t_graphs h, w_RK K q_t_ranks q_t_ranks_counts g_t_ranks_counts, w_TR K q_t_triangulations q_t_triangulations_lows q_t_triangulations_highs f_lows f_highs z_lows z_highs z_diagonals]) (gA5 K q_t q_t_ranks q_t_partitions q_t_triangulations q_t_families q_t_graphs q_t_paper q_t_trial q_cu q_dr h q_t_ranks_counts g_t_ranks_counts q_t_triangulations_lows q_t_triangulations_highs f_lows f_highs r.1 r.2.1 r.2.2.1 r.2.2.2.1) := by
  intro sz
  refine Met.ofW (cc := cCW_graphOf) (maxL := 3) (ret := (some (.object RFG))) (by decide) rfl ?_
  intro p e s m args below meth c s₁ B hml hv
  obtain ⟨rfl, hsz, hP, hK, hD0, hE⟩ := hv
  have hx := B.exec
  have hb := B.bytes
  have hr := B.returns
  have hts := atoms_spec (ws := wc_CW_graphOf) B.pre
  have hws : ∀ w ∈ WS, w.before _ s = true := fun w h => hts w (List.mem_cons_of_mem _ h)
  have hown : s.vm.findClass RCW = some m.cls := findClass_of_methodNamed B.named
  have hlocks := B.notSynchronized
  subst hsz
  have hD := hD0.self (sz := s.heap.size)
  generalize hAe : va_A (fl [bCW K q_t q_t_ranks q_t_partitions q_t_triangulations q_t_families q_t_graphs q_t_paper q_t_trial q_cu q_dr, bGR K q_t_graphs h, w_RK K q_t_ranks q_t_ranks_counts g_t_ranks_counts, w_TR K q_t_triangulations q_t_triangulations_lows q_t_triangulations_highs f_lows f_highs z_lows z_highs z_diagonals]) s.heap.size = A at hD ⊢
  have hA : ∀ q : Nat, s.heap.size ≤ q → A q := fun q h => by rw [← hAe]; exact Or.inr h
  have hS : va_S A s.heap s.heap [] := va_S.rf
  have hl := lv_entry ([.ref q_t, .int (nI 5)]) (n := 3) (Nat.le_of_ble_eq_true rfl)
  rw [lg_entry_eq]
  generalize (lg_sl ([.ref q_t, .int (nI 5)]) ++ List.replicate (3 - (lg_sl ([.ref q_t, .int (nI 5)])).length) Slot.unset).toArray = ls at hl ⊢
  have hl : lv_has ls 3 [(0, .ref q_t), (1, .int (nI 5))] := hl
  generalize ([.ref q_t, .int (nI 5)] : List Value).toArray = args at hts hws ⊢
  generalize hQ : MQ below _ _ _ _ _ _ = Q
  refine lv_aload_n hx hb dCW_graphOf_0 rfl (lv_at hl 0 rfl) ?_
  refine va_get (D := (dC, dI)) (ci := 9) (v := .ref q_t_graphs) (C := RCW) (T := TCW) (N := 9) hx hb hws uwCW hown hK (pB hP 0 rfl) 0 rfl rfl 4 (by decide) (hws _ kf_CW_50) (fun _ h9 => h9) rfl dCW_graphOf_1 ?_
  refine lv_iload_n hx hb dCW_graphOf_4 rfl (lv_at hl 1 rfl) ?_
  refine lx_aald (i := 5) (v := .null) hx hb hK (pB hP 1 rfl) 0 4 rfl rfl (Or.inl ⟨_, rfl⟩) (by decide) (by decide) (by rw [hh]; rfl) dCW_graphOf_5 ?_
  refine lv_astore_nN hx hb dCW_graphOf_6 rfl hl (by decide) rfl (fun ls hl => ?_)
  refine lv_aload_nN hx hb dCW_graphOf_7 rfl (lv_at hl 0 rfl) ?_
  refine lv_ifnonnullN hx hb dCW_graphOf_8 ?_
  refine va_new (ci := 6) (fs := [.int 0, .int 0, .null, .null, .null]) (C := RFG) (T := TFG) (N := 5) hx hb hws uwFG tyFG okFG hown (hws _ kl_CW_48) (hws _ kt_FG) (hws _ kz_FG) hK hP hD hS hA rfl (fun j hj => by rcases (by omega : j = 0 ∨ j = 1 ∨ j = 2 ∨ j = 3 ∨ j = 4) with rfl | rfl | rfl | rfl | rfl <;> rfl) (Nat.le_of_ble_eq_true rfl) (Nat.le_of_ble_eq_true rfl) dCW_graphOf_11 (fun a11 H hP hD hS => ?_)
  refine W.widen (k := 1) (n := 5) (Nat.le_of_ble_eq_true rfl) (Nat.le_of_ble_eq_true rfl) ?_
  rw [← fl_snoc] at hP hD
  have hP := perm_P (cs := [bCW K q_t q_t_ranks q_t_partitions q_t_triangulations q_t_families q_t_graphs q_t_paper q_t_trial q_cu q_dr, bGR K q_t_graphs h, [(a11, .inr (6, [.int 0, .int 0, .null, .null, .null]))], w_RK K q_t_ranks q_t_ranks_counts g_t_ranks_counts, w_TR K q_t_triangulations q_t_triangulations_lows q_t_triangulations_highs f_lows f_highs z_lows z_highs z_diagonals]) hP [0, 1, 4, 2, 3] rfl
  have hD := block_Dsub (cs := [bCW K q_t q_t_ranks q_t_partitions q_t_triangulations q_t_families q_t_graphs q_t_paper q_t_trial q_cu q_dr, bGR K q_t_graphs h, [(a11, .inr (6, [.int 0, .int 0, .null, .null, .null]))], w_RK K q_t_ranks q_t_ranks_counts g_t_ranks_counts, w_TR K q_t_triangulations q_t_triangulations_lows q_t_triangulations_highs f_lows f_highs z_lows z_highs z_diagonals]) hD [0, 1, 4, 2, 3] (by decide) rfl
  refine lv_dup hx hb dCW_graphOf_14 rfl ?_
  refine lv_iload_n hx hb dCW_graphOf_15 rfl (lv_at hl 2 rfl) ?_
  refine lv_aload_n hx hb dCW_graphOf_16 rfl (lv_at hl 1 rfl) ?_
  refine va_get (D := (dC, dI)) (ci := 9) (v := .ref q_t_ranks) (C := RCW) (T := TCW) (N := 9) hx hb hws uwCW hown hK (pB hP 0 rfl) 0 rfl rfl 0 (by decide) (hws _ kf_CW_10) (fun _ h9 => h9) rfl dCW_graphOf_17 ?_
  refine lv_aload_n hx hb dCW_graphOf_20 rfl (lv_at hl 1 rfl) ?_
  refine va_get (D := (dC, dI)) (ci := 9) (v := .ref q_t_triangulations) (C := RCW) (T := TCW) (N := 9) hx hb hws uwCW hown hK (pB hP 0 rfl) 0 rfl rfl 2 (by decide) (hws _ kf_CW_26) (fun _ h9 => h9) rfl dCW_graphOf_21 ?_
  have hP : va_P (dC, dI) vwCl (fl [bCW K q_t q_t_ranks q_t_partitions q_t_triangulations q_t_families q_t_graphs q_t_paper q_t_trial q_cu q_dr, bGR K q_t_graphs h] ++ fl [[(a11, .inr (6, [.int 0, .int 0, .null, .null, .null]))], w_RK K q_t_ranks q_t_ranks_counts g_t_ranks_counts, w_TR K q_t_triangulations q_t_triangulations_lows q_t_triangulations_highs f_lows f_highs z_lows z_highs z_diagonals]) H := by rw [← fl_app]; exact hP
  have hD : va_D A (fl [bCW K q_t q_t_ranks q_t_partitions q_t_triangulations q_t_families q_t_graphs q_t_paper q_t_trial q_cu q_dr, bGR K q_t_graphs h] ++ fl [[(a11, .inr (6, [.int 0, .int 0, .null, .null, .null]))], w_RK K q_t_ranks q_t_ranks_counts g_t_ranks_counts, w_TR K q_t_triangulations q_t_triangulations_lows q_t_triangulations_highs f_lows f_highs z_lows z_highs z_diagonals]) := by rw [← fl_app]; exact hD
  refine cg_call (w0 := fl [bCW K q_t q_t_ranks q_t_partitions q_t_triangulations q_t_families q_t_graphs q_t_paper q_t_trial q_cu q_dr, bGR K q_t_graphs h]) (cs := fl [[(a11, .inr (6, [.int 0, .int 0, .null, .null, .null]))], w_RK K q_t_ranks q_t_ranks_counts g_t_ranks_counts, w_TR K q_t_triangulations q_t_triangulations_lows q_t_triangulations_highs f_lows f_highs z_lows z_highs z_diagonals]) (va_runI (As := [.int (nI 5), .ref q_t_ranks, .ref q_t_triangulations]) (rest := [.ref a11]) ⟨hx, hb, hml, hown, hws⟩ (cn_FG5_init l dC dI K a11 q_t_ranks q_t_ranks_counts g_t_ranks_counts q_t_triangulations q_t_triangulations_lows q_t_triangulations_highs f_lows f_highs z_lows z_highs z_diagonals r hf _) ⟨cb_FG_init hws rm_FG5_init (hws _ km_CW_186) ⟨Nat.le_of_ble_eq_true rfl, Nat.le_of_ble_eq_true rfl⟩, rfl, hws _ ki_FG_init⟩ ⟨cg_blind nwN_same _ _ _, cg_pre (w0 := fl [bCW K q_t q_t_ranks q_t_partitions q_t_triangulations q_t_families q_t_graphs q_t_paper q_t_trial q_cu q_dr, bGR K q_t_graphs h]) (cs := fl [[(a11, .inr (6, [.int 0, .int 0, .null, .null, .null]))], w_RK K q_t_ranks q_t_ranks_counts g_t_ranks_counts, w_TR K q_t_triangulations q_t_triangulations_lows q_t_triangulations_highs f_lows f_highs z_lows z_highs z_diagonals]) nwN_warm hP hD hK hE _⟩ rfl rfl hl.1 rfl (lv_room (Nat.le_of_ble_eq_true rfl)) dCW_graphOf_24 ⟨Nat.le_of_ble_eq_true rfl, Nat.le_of_ble_eq_true rfl⟩) hP hD hS hA (fun g H locs hP hD hS => ?_)
  refine W.widen (k := 10) (n := 319) (Nat.le_of_ble_eq_true rfl) (Nat.le_of_ble_eq_true rfl) ?_
  refine W.eq (g2 := F0 m 27 ls [.ref a11]) rfl ?_
  have hP : va_P (dC, dI) vwCl (fl [bCW K q_t q_t_ranks q_t_partitions q_t_triangulations q_t_families q_t_graphs q_t_paper q_t_trial q_cu q_dr, bGR K q_t_graphs h, w_FG5 K a11 (g 0) (g 1) (g 2) zf zf zf 42 4 r.1 0 0, w_RK K q_t_ranks q_t_ranks_counts g_t_ranks_counts, w_TR K q_t_triangulations q_t_triangulations_lows q_t_triangulations_highs f_lows f_highs r.2.1 r.2.2.1 r.2.2.2.1]) H := by rw [← fl_app] at hP; exact hP
  have hD : va_D A (fl [bCW K q_t q_t_ranks q_t_partitions q_t_triangulations q_t_families q_t_graphs q_t_paper q_t_trial q_cu q_dr, bGR K q_t_graphs h, w_FG5 K a11 (g 0) (g 1) (g 2) zf zf zf 42 4 r.1 0 0, w_RK K q_t_ranks q_t_ranks_counts g_t_ranks_counts, w_TR K q_t_triangulations q_t_triangulations_lows q_t_triangulations_highs f_lows f_highs r.2.1 r.2.2.1 r.2.2.2.1]) := by rw [← fl_app] at hD; exact hD
  refine lv_astore_n hx hb dCW_graphOf_27 rfl hl (by decide) rfl (fun ls hl => ?_)
  refine lv_aload_n hx hb dCW_graphOf_28 rfl (lv_at hl 1 rfl) ?_
  refine va_get (D := (dC, dI)) (ci := 9) (v := .ref q_t_graphs) (C := RCW) (T := TCW) (N := 9) hx hb hws uwCW hown hK (pB hP 0 rfl) 0 rfl rfl 4 (by decide) (hws _ kf_CW_50) (fun _ h9 => h9) rfl dCW_graphOf_29 ?_
  refine lv_iload_n hx hb dCW_graphOf_32 rfl (lv_at hl 2 rfl) ?_
  refine lv_aload_n hx hb dCW_graphOf_33 rfl (lv_at hl 0 rfl) ?_
  refine lx_aastS (r := (RFG, TFG, 5)) hx hb hK hP hD hS (pB hP 2 rfl) 1 4 0 6 rfl rfl rfl rfl (by decide) (by decide) dCW_graphOf_34 (fun H locs hP hD hS => ?_)
  have hP : va_P (dC, dI) vwCl (fl [bCW K q_t q_t_ranks q_t_partitions q_t_triangulations q_t_families q_t_graphs q_t_paper q_t_trial q_cu q_dr, bGR K q_t_graphs (va_up h 5 (some a11)), w_FG5 K a11 (g 0) (g 1) (g 2) zf zf zf 42 4 r.1 0 0, w_RK K q_t_ranks q_t_ranks_counts g_t_ranks_counts, w_TR K q_t_triangulations q_t_triangulations_lows q_t_triangulations_highs f_lows f_highs r.2.1 r.2.2.1 r.2.2.2.1]) H := hP
  have hD : va_D A (fl [bCW K q_t q_t_ranks q_t_partitions q_t_triangulations q_t_families q_t_graphs q_t_paper q_t_trial q_cu q_dr, bGR K q_t_graphs (va_up h 5 (some a11)), w_FG5 K a11 (g 0) (g 1) (g 2) zf zf zf 42 4 r.1 0 0, w_RK K q_t_ranks q_t_ranks_counts g_t_ranks_counts, w_TR K q_t_triangulations q_t_triangulations_lows q_t_triangulations_highs f_lows f_highs r.2.1 r.2.2.1 r.2.2.2.1]) := hD
  refine lv_aload_n hx hb dCW_graphOf_35 rfl (lv_at hl 0 rfl) ?_
  rw [← hQ]
  exact W.aret hx hb hr (Or.inl ⟨_, rfl⟩) (Or.inr ⟨_, rfl⟩) (fun t ht hW => ⟨⟨_, _, rfl, ⟨a11, g 0, g 1, g 2, rfl, rfl⟩, by rw [ht]; exact hP, hD⟩, hS.F ht⟩) hS.2.2 dCW_graphOf_36
set_option maxHeartbeats 4000000 in
theorem ct_graphP6 (l : Launch) (dC : Nat → ClassId) (dI : Nat → Nat → Nat) (K : Nat → ClassId) (q_t q_t_ranks q_t_partitions q_t_triangulations q_t_families q_t_graphs q_t_paper q_t_trial q_cu q_dr : Nat) (h : Nat → Option Nat) (qg : Nat) (hh : h 6 = some qg) : Ct l (dC, dI) vwCl yCW_graphOf wc_CW_graphOf rm_graphP (tyK K) [.ref q_t, .int (nI 6)] (fl [bCW K q_t q_t_ranks q_t_partitions q_t_triangulations q_t_families q_t_graphs q_t_paper q_t_trial q_cu q_dr, bGR K q_t_graphs h]) (fl [bCW K q_t q_t_ranks q_t_partitions q_t_triangulations q_t_families q_t_graphs q_t_paper q_t_trial q_cu q_dr, bGR K q_t_graphs h]) (some (.ref qg)) := by
  intro sz
  refine Met.ofW (cc := cCW_graphOf) (maxL := 3) (ret := (some (.object RFG))) (by decide) rfl ?_
  intro p e s m args below meth c s₁ B hml hv
  obtain ⟨rfl, hsz, hP, hK, hD0⟩ := hv
  have hx := B.exec
  have hb := B.bytes
  have hr := B.returns
  have hts := atoms_spec (ws := wc_CW_graphOf) B.pre
  have hws : ∀ w ∈ WS, w.before _ s = true := fun w h => hts w (List.mem_cons_of_mem _ h)
  have hown : s.vm.findClass RCW = some m.cls := findClass_of_methodNamed B.named
  have hlocks := B.notSynchronized
  subst hsz
  have hD := hD0.self (sz := s.heap.size)
  generalize hAe : va_A (fl [bCW K q_t q_t_ranks q_t_partitions q_t_triangulations q_t_families q_t_graphs q_t_paper q_t_trial q_cu q_dr, bGR K q_t_graphs h]) s.heap.size = A at hD ⊢
  have hA : ∀ q : Nat, s.heap.size ≤ q → A q := fun q h => by rw [← hAe]; exact Or.inr h
  have hS : va_S A s.heap s.heap [] := va_S.rf
  have hl := lv_entry ([.ref q_t, .int (nI 6)]) (n := 3) (Nat.le_of_ble_eq_true rfl)
  rw [lg_entry_eq]
  generalize (lg_sl ([.ref q_t, .int (nI 6)]) ++ List.replicate (3 - (lg_sl ([.ref q_t, .int (nI 6)])).length) Slot.unset).toArray = ls at hl ⊢
  have hl : lv_has ls 3 [(0, .ref q_t), (1, .int (nI 6))] := hl
  generalize ([.ref q_t, .int (nI 6)] : List Value).toArray = args at hts hws ⊢
  generalize hQ : MQ below _ _ _ _ _ _ = Q
  refine lv_aload_n hx hb dCW_graphOf_0 rfl (lv_at hl 0 rfl) ?_
  refine va_get (D := (dC, dI)) (ci := 9) (v := .ref q_t_graphs) (C := RCW) (T := TCW) (N := 9) hx hb hws uwCW hown hK (pB hP 0 rfl) 0 rfl rfl 4 (by decide) (hws _ kf_CW_50) (fun _ h9 => h9) rfl dCW_graphOf_1 ?_
  refine lv_iload_n hx hb dCW_graphOf_4 rfl (lv_at hl 1 rfl) ?_
  refine lx_aald (i := 6) (v := .ref qg) hx hb hK (pB hP 1 rfl) 0 4 rfl rfl (Or.inl ⟨_, rfl⟩) (by decide) (by decide) (by rw [hh]; rfl) dCW_graphOf_5 ?_
  refine lv_astore_n hx hb dCW_graphOf_6 rfl hl (by decide) rfl (fun ls hl => ?_)
  refine lv_aload_n hx hb dCW_graphOf_7 rfl (lv_at hl 0 rfl) ?_
  refine lv_ifnonnull (tgt := 35) hx hb dCW_graphOf_8 (by decide) ?_
  refine lv_aload_n hx hb dCW_graphOf_35 rfl (lv_at hl 0 rfl) ?_
  rw [← hQ]
  exact W.aret hx hb hr (Or.inl ⟨_, rfl⟩) (Or.inr ⟨_, rfl⟩) (fun t ht hW => ⟨⟨rfl, by rw [ht]; exact hP⟩, hS.F ht⟩) hS.2.2 dCW_graphOf_36
def gA6 (K : Nat → ClassId) (q_t q_t_ranks q_t_partitions q_t_triangulations q_t_families q_t_graphs q_t_paper q_t_trial q_cu q_dr : Nat) (h : Nat → Option Nat) (q_t_ranks_counts : Nat) (g_t_ranks_counts : Nat → Nat) (q_t_triangulations_lows q_t_triangulations_highs : Nat) (f_lows f_highs : Nat → Int32) (lk o1 o2 o3 : Nat) (rv : Option Value) (ws : va_W) : Prop := ∃ (qn a1 a2 a3 : Nat), rv = some (.ref qn) ∧ ws = fl [bCW K q_t q_t_ranks q_t_partitions q_t_triangulations q_t_families q_t_graphs q_t_paper q_t_trial q_cu q_dr, bGR K q_t_graphs (va_up h 6 (some qn)), w_FG6 K qn a1 a2 a3 zf zf zf 132 5 lk 0 0, w_RK K q_t_ranks q_t_ranks_counts g_t_ranks_counts, w_TR K q_t_triangulations q_t_triangulations_lows q_t_triangulations_highs f_lows f_highs o1 o2 o3]
abbrev rm_graphA6 : Room := { frames := 5, cells := 10, slots := 991, locals := 114 }
set_option maxHeartbeats 4000000 in
set_option maxRecDepth 100000 in
theorem cn_graphA6 (l : Launch) (dC : Nat → ClassId) (dI : Nat → Nat → Nat) (K : Nat → ClassId) (q_t q_t_ranks q_t_partitions q_t_triangulations q_t_families q_t_graphs q_t_paper q_t_trial q_cu q_dr : Nat) (h : Nat → Option Nat) (hh : h 6 = none) (q_t_ranks_counts : Nat) (g_t_ranks_counts : Nat → Nat) (q_t_triangulations_lows q_t_triangulations_highs : Nat) (f_lows f_highs : Nat → Int32) (z_lows z_highs z_diagonals : Nat) (r : Nat × Nat × Nat × Nat × Nat × Nat × Nat × Nat × Nat × Nat) (hf : f_FG6_init z_lows z_highs z_diagonals = some r) : CtR nwN l (dC, dI) vwCl yCW_graphOf wc_CW_graphOf rm_graphA6 (tyK K) [.ref q_t, .int (nI 6)] (fl [bCW K q_t q_t_ranks q_t_partitions q_t_triangulations q_t_families q_t_graphs q_t_paper q_t_trial q_cu q_dr, bGR K q_t_graphs h, w_RK K q_t_ranks q_t_ranks_counts g_t_ranks_counts, w_TR K q_t_triangulations q_t_triangulations_lows q_t_triangulations_highs f_lows f_highs z_lows z_highs z_diagonals]) (gA6 K q_t q_t_ranks q_t_partitions q_t_triangulations q_t_families q_t_graphs q_t_paper q_t_trial q_cu q_dr h q_t_ranks_counts g_t_ranks_counts q_t_triangulations_lows q_t_triangulations_highs f_lows f_highs r.1 r.2.1 r.2.2.1 r.2.2.2.1) := by
  intro sz
  refine Met.ofW (cc := cCW_graphOf) (maxL := 3) (ret := (some (.object RFG))) (by decide) rfl ?_
  intro p e s m args below meth c s₁ B hml hv
  obtain ⟨rfl, hsz, hP, hK, hD0, hE⟩ := hv
  have hx := B.exec
  have hb := B.bytes
  have hr := B.returns
  have hts := atoms_spec (ws := wc_CW_graphOf) B.pre
  have hws : ∀ w ∈ WS, w.before _ s = true := fun w h => hts w (List.mem_cons_of_mem _ h)
  have hown : s.vm.findClass RCW = some m.cls := findClass_of_methodNamed B.named
  have hlocks := B.notSynchronized
  subst hsz
  have hD := hD0.self (sz := s.heap.size)
  generalize hAe : va_A (fl [bCW K q_t q_t_ranks q_t_partitions q_t_triangulations q_t_families q_t_graphs q_t_paper q_t_trial q_cu q_dr, bGR K q_t_graphs h, w_RK K q_t_ranks q_t_ranks_counts g_t_ranks_counts, w_TR K q_t_triangulations q_t_triangulations_lows q_t_triangulations_highs f_lows f_highs z_lows z_highs z_diagonals]) s.heap.size = A at hD ⊢
  have hA : ∀ q : Nat, s.heap.size ≤ q → A q := fun q h => by rw [← hAe]; exact Or.inr h
  have hS : va_S A s.heap s.heap [] := va_S.rf
  have hl := lv_entry ([.ref q_t, .int (nI 6)]) (n := 3) (Nat.le_of_ble_eq_true rfl)
  rw [lg_entry_eq]
  generalize (lg_sl ([.ref q_t, .int (nI 6)]) ++ List.replicate (3 - (lg_sl ([.ref q_t, .int (nI 6)])).length) Slot.unset).toArray = ls at hl ⊢
  have hl : lv_has ls 3 [(0, .ref q_t), (1, .int (nI 6))] := hl
  generalize ([.ref q_t, .int (nI 6)] : List Value).toArray = args at hts hws ⊢
  generalize hQ : MQ below _ _ _ _ _ _ = Q
  refine lv_aload_n hx hb dCW_graphOf_0 rfl (lv_at hl 0 rfl) ?_
  refine va_get (D := (dC, dI)) (ci := 9) (v := .ref q_t_graphs) (C := RCW) (T := TCW) (N := 9) hx hb hws uwCW hown hK (pB hP 0 rfl) 0 rfl rfl 4 (by decide) (hws _ kf_CW_50) (fun _ h9 => h9) rfl dCW_graphOf_1 ?_
  refine lv_iload_n hx hb dCW_graphOf_4 rfl (lv_at hl 1 rfl) ?_
  refine lx_aald (i := 6) (v := .null) hx hb hK (pB hP 1 rfl) 0 4 rfl rfl (Or.inl ⟨_, rfl⟩) (by decide) (by decide) (by rw [hh]; rfl) dCW_graphOf_5 ?_
  refine lv_astore_nN hx hb dCW_graphOf_6 rfl hl (by decide) rfl (fun ls hl => ?_)
  refine lv_aload_nN hx hb dCW_graphOf_7 rfl (lv_at hl 0 rfl) ?_
  refine lv_ifnonnullN hx hb dCW_graphOf_8 ?_
  refine va_new (ci := 6) (fs := [.int 0, .int 0, .null, .null, .null]) (C := RFG) (T := TFG) (N := 5) hx hb hws uwFG tyFG okFG hown (hws _ kl_CW_48) (hws _ kt_FG) (hws _ kz_FG) hK hP hD hS hA rfl (fun j hj => by rcases (by omega : j = 0 ∨ j = 1 ∨ j = 2 ∨ j = 3 ∨ j = 4) with rfl | rfl | rfl | rfl | rfl <;> rfl) (Nat.le_of_ble_eq_true rfl) (Nat.le_of_ble_eq_true rfl) dCW_graphOf_11 (fun a11 H hP hD hS => ?_)
  refine W.widen (k := 1) (n := 5) (Nat.le_of_ble_eq_true rfl) (Nat.le_of_ble_eq_true rfl) ?_
  rw [← fl_snoc] at hP hD
  have hP := perm_P (cs := [bCW K q_t q_t_ranks q_t_partitions q_t_triangulations q_t_families q_t_graphs q_t_paper q_t_trial q_cu q_dr, bGR K q_t_graphs h, [(a11, .inr (6, [.int 0, .int 0, .null, .null, .null]))], w_RK K q_t_ranks q_t_ranks_counts g_t_ranks_counts, w_TR K q_t_triangulations q_t_triangulations_lows q_t_triangulations_highs f_lows f_highs z_lows z_highs z_diagonals]) hP [0, 1, 4, 2, 3] rfl
  have hD := block_Dsub (cs := [bCW K q_t q_t_ranks q_t_partitions q_t_triangulations q_t_families q_t_graphs q_t_paper q_t_trial q_cu q_dr, bGR K q_t_graphs h, [(a11, .inr (6, [.int 0, .int 0, .null, .null, .null]))], w_RK K q_t_ranks q_t_ranks_counts g_t_ranks_counts, w_TR K q_t_triangulations q_t_triangulations_lows q_t_triangulations_highs f_lows f_highs z_lows z_highs z_diagonals]) hD [0, 1, 4, 2, 3] (by decide) rfl
  refine lv_dup hx hb dCW_graphOf_14 rfl ?_
  refine lv_iload_n hx hb dCW_graphOf_15 rfl (lv_at hl 2 rfl) ?_
  refine lv_aload_n hx hb dCW_graphOf_16 rfl (lv_at hl 1 rfl) ?_
  refine va_get (D := (dC, dI)) (ci := 9) (v := .ref q_t_ranks) (C := RCW) (T := TCW) (N := 9) hx hb hws uwCW hown hK (pB hP 0 rfl) 0 rfl rfl 0 (by decide) (hws _ kf_CW_10) (fun _ h9 => h9) rfl dCW_graphOf_17 ?_
  refine lv_aload_n hx hb dCW_graphOf_20 rfl (lv_at hl 1 rfl) ?_
  refine va_get (D := (dC, dI)) (ci := 9) (v := .ref q_t_triangulations) (C := RCW) (T := TCW) (N := 9) hx hb hws uwCW hown hK (pB hP 0 rfl) 0 rfl rfl 2 (by decide) (hws _ kf_CW_26) (fun _ h9 => h9) rfl dCW_graphOf_21 ?_
  have hP : va_P (dC, dI) vwCl (fl [bCW K q_t q_t_ranks q_t_partitions q_t_triangulations q_t_families q_t_graphs q_t_paper q_t_trial q_cu q_dr, bGR K q_t_graphs h] ++ fl [[(a11, .inr (6, [.int 0, .int 0, .null, .null, .null]))], w_RK K q_t_ranks q_t_ranks_counts g_t_ranks_counts, w_TR K q_t_triangulations q_t_triangulations_lows q_t_triangulations_highs f_lows f_highs z_lows z_highs z_diagonals]) H := by rw [← fl_app]; exact hP
  have hD : va_D A (fl [bCW K q_t q_t_ranks q_t_partitions q_t_triangulations q_t_families q_t_graphs q_t_paper q_t_trial q_cu q_dr, bGR K q_t_graphs h] ++ fl [[(a11, .inr (6, [.int 0, .int 0, .null, .null, .null]))], w_RK K q_t_ranks q_t_ranks_counts g_t_ranks_counts, w_TR K q_t_triangulations q_t_triangulations_lows q_t_triangulations_highs f_lows f_highs z_lows z_highs z_diagonals]) := by rw [← fl_app]; exact hD
  refine cg_call (w0 := fl [bCW K q_t q_t_ranks q_t_partitions q_t_triangulations q_t_families q_t_graphs q_t_paper q_t_trial q_cu q_dr, bGR K q_t_graphs h]) (cs := fl [[(a11, .inr (6, [.int 0, .int 0, .null, .null, .null]))], w_RK K q_t_ranks q_t_ranks_counts g_t_ranks_counts, w_TR K q_t_triangulations q_t_triangulations_lows q_t_triangulations_highs f_lows f_highs z_lows z_highs z_diagonals]) (va_runI (As := [.int (nI 6), .ref q_t_ranks, .ref q_t_triangulations]) (rest := [.ref a11]) ⟨hx, hb, hml, hown, hws⟩ (cn_FG6_init l dC dI K a11 q_t_ranks q_t_ranks_counts g_t_ranks_counts q_t_triangulations q_t_triangulations_lows q_t_triangulations_highs f_lows f_highs z_lows z_highs z_diagonals r hf _) ⟨cb_FG_init hws rm_FG6_init (hws _ km_CW_186) ⟨Nat.le_of_ble_eq_true rfl, Nat.le_of_ble_eq_true rfl⟩, rfl, hws _ ki_FG_init⟩ ⟨cg_blind nwN_same _ _ _, cg_pre (w0 := fl [bCW K q_t q_t_ranks q_t_partitions q_t_triangulations q_t_families q_t_graphs q_t_paper q_t_trial q_cu q_dr, bGR K q_t_graphs h]) (cs := fl [[(a11, .inr (6, [.int 0, .int 0, .null, .null, .null]))], w_RK K q_t_ranks q_t_ranks_counts g_t_ranks_counts, w_TR K q_t_triangulations q_t_triangulations_lows q_t_triangulations_highs f_lows f_highs z_lows z_highs z_diagonals]) nwN_warm hP hD hK hE _⟩ rfl rfl hl.1 rfl (lv_room (Nat.le_of_ble_eq_true rfl)) dCW_graphOf_24 ⟨Nat.le_of_ble_eq_true rfl, Nat.le_of_ble_eq_true rfl⟩) hP hD hS hA (fun g H locs hP hD hS => ?_)
  refine W.widen (k := 10) (n := 991) (Nat.le_of_ble_eq_true rfl) (Nat.le_of_ble_eq_true rfl) ?_
  refine W.eq (g2 := F0 m 27 ls [.ref a11]) rfl ?_
  have hP : va_P (dC, dI) vwCl (fl [bCW K q_t q_t_ranks q_t_partitions q_t_triangulations q_t_families q_t_graphs q_t_paper q_t_trial q_cu q_dr, bGR K q_t_graphs h, w_FG6 K a11 (g 0) (g 1) (g 2) zf zf zf 132 5 r.1 0 0, w_RK K q_t_ranks q_t_ranks_counts g_t_ranks_counts, w_TR K q_t_triangulations q_t_triangulations_lows q_t_triangulations_highs f_lows f_highs r.2.1 r.2.2.1 r.2.2.2.1]) H := by rw [← fl_app] at hP; exact hP
  have hD : va_D A (fl [bCW K q_t q_t_ranks q_t_partitions q_t_triangulations q_t_families q_t_graphs q_t_paper q_t_trial q_cu q_dr, bGR K q_t_graphs h, w_FG6 K a11 (g 0) (g 1) (g 2) zf zf zf 132 5 r.1 0 0, w_RK K q_t_ranks q_t_ranks_counts g_t_ranks_counts, w_TR K q_t_triangulations q_t_triangulations_lows q_t_triangulations_highs f_lows f_highs r.2.1 r.2.2.1 r.2.2.2.1]) := by rw [← fl_app] at hD; exact hD
  refine lv_astore_n hx hb dCW_graphOf_27 rfl hl (by decide) rfl (fun ls hl => ?_)
  refine lv_aload_n hx hb dCW_graphOf_28 rfl (lv_at hl 1 rfl) ?_
  refine va_get (D := (dC, dI)) (ci := 9) (v := .ref q_t_graphs) (C := RCW) (T := TCW) (N := 9) hx hb hws uwCW hown hK (pB hP 0 rfl) 0 rfl rfl 4 (by decide) (hws _ kf_CW_50) (fun _ h9 => h9) rfl dCW_graphOf_29 ?_
  refine lv_iload_n hx hb dCW_graphOf_32 rfl (lv_at hl 2 rfl) ?_
  refine lv_aload_n hx hb dCW_graphOf_33 rfl (lv_at hl 0 rfl) ?_
  refine lx_aastS (r := (RFG, TFG, 5)) hx hb hK hP hD hS (pB hP 2 rfl) 1 4 0 6 rfl rfl rfl rfl (by decide) (by decide) dCW_graphOf_34 (fun H locs hP hD hS => ?_)
  have hP : va_P (dC, dI) vwCl (fl [bCW K q_t q_t_ranks q_t_partitions q_t_triangulations q_t_families q_t_graphs q_t_paper q_t_trial q_cu q_dr, bGR K q_t_graphs (va_up h 6 (some a11)), w_FG6 K a11 (g 0) (g 1) (g 2) zf zf zf 132 5 r.1 0 0, w_RK K q_t_ranks q_t_ranks_counts g_t_ranks_counts, w_TR K q_t_triangulations q_t_triangulations_lows q_t_triangulations_highs f_lows f_highs r.2.1 r.2.2.1 r.2.2.2.1]) H := hP
  have hD : va_D A (fl [bCW K q_t q_t_ranks q_t_partitions q_t_triangulations q_t_families q_t_graphs q_t_paper q_t_trial q_cu q_dr, bGR K q_t_graphs (va_up h 6 (some a11)), w_FG6 K a11 (g 0) (g 1) (g 2) zf zf zf 132 5 r.1 0 0, w_RK K q_t_ranks q_t_ranks_counts g_t_ranks_counts, w_TR K q_t_triangulations q_t_triangulations_lows q_t_triangulations_highs f_lows f_highs r.2.1 r.2.2.1 r.2.2.2.1]) := hD
  refine lv_aload_n hx hb dCW_graphOf_35 rfl (lv_at hl 0 rfl) ?_
  rw [← hQ]
  exact W.aret hx hb hr (Or.inl ⟨_, rfl⟩) (Or.inr ⟨_, rfl⟩) (fun t ht hW => ⟨⟨_, _, rfl, ⟨a11, g 0, g 1, g 2, rfl, rfl⟩, by rw [ht]; exact hP, hD⟩, hS.F ht⟩) hS.2.2 dCW_graphOf_36
