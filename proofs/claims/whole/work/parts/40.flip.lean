noncomputable abbrev w_FG1 (K : Nat → ClassId) (q_t : Nat) (q_t_links : Nat) (q_t_steps : Nat) (q_t_queue : Nat) (f_t_links : Nat → Int32) (f_t_steps : Nat → Int32) (f_t_queue : Nat → Int32) (z_t_words : Nat) (z_t_diagonals : Nat) (z_t_links : Nat) (z_t_steps : Nat) (z_t_queue : Nat) : va_W := [(q_t, .inr (6, [.int (nI z_t_words), .int (nI z_t_diagonals), .ref q_t_links, .ref q_t_steps, .ref q_t_queue])), (q_t_links, .inl (K 0, 0, .inl (ar f_t_links z_t_links))), (q_t_steps, .inl (K 0, 1, .inl (ar f_t_steps z_t_steps))), (q_t_queue, .inl (K 0, 1, .inl (ar f_t_queue z_t_queue)))]
noncomputable def b_AR_fill1_5 (ih : Nat → Nat → Nat → Nat → Option (Nat)) (x1 : Nat) (z_p0 : Nat) (l1 : Nat) (l2 : Nat) (l3 : Nat) (y_p0 : Nat) : Option (Nat) := (bif iLt l2 l3 then (bif Nat.blt l2 1 then (fz (iA l2 1) (fun u1 => fz (aw y_p0 l2 l1) (fun u2 => ih l1 u1 l3 u2))) else none) else some y_p0)
noncomputable def fr_AR_fill1 (x1 : Nat) (z_p0 : Nat) (k : Nat) : Nat → Nat → Nat → Nat → Option (Nat) := Nat.rec (motive := fun _ => Nat → Nat → Nat → Nat → Option (Nat)) (fun _ _ _ _ => none) (fun _ ih a0 a1 a2 a3 => b_AR_fill1_5 ih x1 z_p0 a0 a1 a2 a3) k
theorem frs_AR_fill1_5 (x1 : Nat) (z_p0 : Nat) (k : Nat) (l1 : Nat) (l2 : Nat) (l3 : Nat) (y_p0 : Nat) : fr_AR_fill1 x1 z_p0 (k + 1) l1 l2 l3 y_p0 = b_AR_fill1_5 (fr_AR_fill1 x1 z_p0 k) x1 z_p0 l1 l2 l3 y_p0 := rfl
noncomputable def e_AR_fill1 (ih : Nat → Nat → Nat → Nat → Option (Nat)) (x1 : Nat) (z_p0 : Nat) : Option (Nat) := (ih x1 0 1 z_p0)
noncomputable def f_AR_fill1 (x1 : Nat) (z_p0 : Nat) : Option (Nat) := e_AR_fill1 (fr_AR_fill1 x1 z_p0 1000000) x1 z_p0
abbrev rm_AR_fill1 : Room := { frames := 0, cells := 0, slots := 0, locals := 0 }
set_option maxHeartbeats 4000000 in
set_option maxRecDepth 100000 in
theorem ct_AR_fill1 (l : Launch) (dC : Nat → ClassId) (dI : Nat → Nat → Nat) (K : Nat → ClassId) (q_p0 : Nat) (f_p0 : Nat → Int32) (x1 : Nat) (z_p0 : Nat) (r : Nat) (hf : f_AR_fill1 x1 z_p0 = some r) : Ct l (dC, dI) vwCl yAR_fill wc_AR_fill rm_AR_fill1 (tyK K) [.ref q_p0, .int (nI x1)] (wArr K 1 q_p0 f_p0 z_p0) (wArr K 1 q_p0 f_p0 r) none := by
  intro sz
  refine Met.ofW (cc := cAR_fill) (maxL := 4) (ret := none) (by decide) rfl ?_
  intro p e s m args below meth c s₁ B hml hv
  obtain ⟨rfl, hsz, hP, hK, hD0⟩ := hv
  have hx := B.exec
  have hb := B.bytes
  have hr := B.returns
  have hts := atoms_spec (ws := wc_AR_fill) B.pre
  have hws : ∀ w ∈ WS, w.before _ s = true := fun w h => hts w (List.mem_cons_of_mem _ h)
  have hown : s.vm.findClass RAR = some m.cls := findClass_of_methodNamed B.named
  have hlocks := B.notSynchronized
  subst hsz
  have hD := hD0.self (sz := s.heap.size)
  generalize hAe : va_A (wArr K 1 q_p0 f_p0 z_p0) s.heap.size = A at hD ⊢
  have hA : ∀ q : Nat, s.heap.size ≤ q → A q := fun q h => by rw [← hAe]; exact Or.inr h
  have hS : va_S A s.heap s.heap [] := va_S.rf
  have hl := lv_entry ([.ref q_p0, .int (nI x1)]) (n := 4) (Nat.le_of_ble_eq_true rfl)
  rw [lg_entry_eq]
  generalize (lg_sl ([.ref q_p0, .int (nI x1)]) ++ List.replicate (4 - (lg_sl ([.ref q_p0, .int (nI x1)])).length) Slot.unset).toArray = ls at hl ⊢
  have hl : lv_has ls 4 [(0, .ref q_p0), (1, .int (nI x1))] := hl
  generalize ([.ref q_p0, .int (nI x1)] : List Value).toArray = args at hts hws ⊢
  generalize hQ : MQ below _ _ _ _ _ _ = Q
  have hb_5 : ∀ (ih : Nat → Nat → Nat → Nat → Option (Nat)) (IH : (∀ (l1 l2 l3 y_p0 : Nat) (H : Heap) (locs : List Loc) (ls : Array Slot), ih l1 l2 l3 y_p0 = some r → lv_has ls 4 [(0, .ref q_p0), (1, .int (nI l1)), (2, .int (nI l2)), (3, .int (nI l3))] → va_P (dC, dI) vwCl (wArr K 1 q_p0 f_p0 y_p0) H → va_D A (wArr K 1 q_p0 f_p0 y_p0) → va_S A s.heap H locs → W p l e (headSpec wc_AR_fill rm_AR_fill1).room s m args below meth c H locs 0 0 Q (F0 m 5 ls []))), ∀ (l1 l2 l3 y_p0 : Nat) (H : Heap) (locs : List Loc) (ls : Array Slot), b_AR_fill1_5 ih x1 z_p0 l1 l2 l3 y_p0 = some r → lv_has ls 4 [(0, .ref q_p0), (1, .int (nI l1)), (2, .int (nI l2)), (3, .int (nI l3))] → va_P (dC, dI) vwCl (wArr K 1 q_p0 f_p0 y_p0) H → va_D A (wArr K 1 q_p0 f_p0 y_p0) → va_S A s.heap H locs → W p l e (headSpec wc_AR_fill rm_AR_fill1).room s m args below meth c H locs 0 0 Q (F0 m 5 ls []) := by
    intro ih IH l1 l2 l3 y_p0 H locs ls hf hl hP hD hS
    unfold b_AR_fill1_5 at hf
    refine lv_iload_n hx hb dAR_fill_5 rfl (lv_at hl 2 rfl) ?_
    refine lv_iload_n hx hb dAR_fill_6 rfl (lv_at hl 3 rfl) ?_
    refine lx_icmp_ge (tgt := 20) hx hb dAR_fill_7 (by decide) hf (fun hf => ?_) (fun hf => ?_)
    · obtain rfl := Option.some.inj hf
      rw [← hQ]
      exact W.vret hx hb hr (fun t ht hW => ⟨⟨rfl, by rw [ht]; exact hP⟩, hS.F ht⟩) hS.2.2 dAR_fill_20
    · refine lv_aload_n hx hb dAR_fill_10 rfl (lv_at hl 0 rfl) ?_
      refine lv_iload_n hx hb dAR_fill_11 rfl (lv_at hl 2 rfl) ?_
      refine lv_iload_n hx hb dAR_fill_12 rfl (lv_at hl 1 rfl) ?_
      refine lx_iast hx hb hK hP hD hS 0 0 rfl rfl (by decide) dAR_fill_13 hf (fun hf H locs hP hD hS => ?_)
      have hP : va_P (dC, dI) vwCl (wArr K 1 q_p0 f_p0 (aw y_p0 l2 l1)) H := hP
      have hD : va_D A (wArr K 1 q_p0 f_p0 (aw y_p0 l2 l1)) := hD
      refine lx_iinc (k := 2) (d := 1) hx hb dAR_fill_14 hl rfl (by decide +kernel) (by decide) rfl (fun ls hl => ?_)
      refine lv_goto (tgt := 5) hx hb dAR_fill_17 (by decide) ?_
      have hf := fz_s hf
      have hf := fz_s hf
      exact IH l1 (iA l2 1) l3 (aw y_p0 l2 l1) _ _ _ hf (lv_sub hl [1, 2, 0, 3] rfl) hP hD hS
  have key : ∀ k : Nat, (∀ (l1 l2 l3 y_p0 : Nat) (H : Heap) (locs : List Loc) (ls : Array Slot), fr_AR_fill1 x1 z_p0 k l1 l2 l3 y_p0 = some r → lv_has ls 4 [(0, .ref q_p0), (1, .int (nI l1)), (2, .int (nI l2)), (3, .int (nI l3))] → va_P (dC, dI) vwCl (wArr K 1 q_p0 f_p0 y_p0) H → va_D A (wArr K 1 q_p0 f_p0 y_p0) → va_S A s.heap H locs → W p l e (headSpec wc_AR_fill rm_AR_fill1).room s m args below meth c H locs 0 0 Q (F0 m 5 ls [])) := by
    intro k
    induction k with
    | zero => exact fun l1 l2 l3 y_p0 H locs ls hf _ _ _ _ => no_s (α := Nat) (r := r) hf
    | succ k IH => exact fun l1 l2 l3 y_p0 H locs ls hf => hb_5 (fr_AR_fill1 x1 z_p0 k) IH l1 l2 l3 y_p0 H locs ls ((frs_AR_fill1_5 x1 z_p0 k l1 l2 l3 y_p0).symm.trans hf)
  have IH := key 1000000
  have hf : e_AR_fill1 (fr_AR_fill1 x1 z_p0 1000000) x1 z_p0 = some r := hf
  unfold e_AR_fill1 at hf
  generalize fr_AR_fill1 x1 z_p0 1000000 = ih at hf IH
  refine lv_iconst (v := nI 0) hx hb dAR_fill_0 (by decide +kernel) ?_
  refine lv_istore_n hx hb dAR_fill_1 rfl hl (by decide) rfl (fun ls hl => ?_)
  refine lv_aload_n hx hb dAR_fill_2 rfl (lv_at hl 1 rfl) ?_
  refine va_alen hx hb hK hP 0 0 rfl rfl (v := nI 1) rfl dAR_fill_3 ?_
  refine lv_istore_n hx hb dAR_fill_4 rfl hl (by decide) rfl (fun ls hl => ?_)
  exact IH x1 0 1 z_p0 _ _ _ hf (lv_sub hl [2, 3, 1, 0] rfl) hP hD hS
noncomputable def j_FG1_findNeighbours_67 (ih : Nat → Nat → Nat → Nat → Nat → Option (Nat × Nat × Nat)) (x0 : Nat) (x1 : Nat) (z_t_diagonals : Nat) (z_t_links : Nat) (z_t_steps : Nat) (z_t_queue : Nat) (l1 : Nat) (l3 : Nat) (l4 : Nat) (y_t_steps : Nat) (y_t_queue : Nat) : Option (Nat × Nat × Nat) := (fz (iA l4 1) (fun u7 => ih l1 l3 u7 y_t_steps y_t_queue))
noncomputable def b_FG1_findNeighbours_5 (ih : Nat → Nat → Nat → Nat → Nat → Option (Nat × Nat × Nat)) (x0 : Nat) (x1 : Nat) (z_t_diagonals : Nat) (z_t_links : Nat) (z_t_steps : Nat) (z_t_queue : Nat) (l1 : Nat) (l3 : Nat) (l4 : Nat) (y_t_steps : Nat) (y_t_queue : Nat) : Option (Nat × Nat × Nat) := (bif iLt l4 z_t_diagonals then (rd z_t_links 0 (iA (iM l1 z_t_diagonals) l4) (fun v1 => (rd y_t_steps 1 v1 (fun v2 => (bif iEq v2 4294967295 then (rd y_t_steps 1 l1 (fun v3 => (bif Nat.blt v1 1 then (bif Nat.blt l3 1 then (fz (iA l3 1) (fun u4 => fz (aw y_t_steps v1 (iA v3 1)) (fun u5 => fz (aw y_t_queue l3 v1) (fun u6 => j_FG1_findNeighbours_67 ih x0 x1 z_t_diagonals z_t_links z_t_steps z_t_queue l1 u4 l4 u5 u6)))) else none) else none))) else (j_FG1_findNeighbours_67 ih x0 x1 z_t_diagonals z_t_links z_t_steps z_t_queue l1 l3 l4 y_t_steps y_t_queue)))))) else some (l3, y_t_steps, y_t_queue))
noncomputable def fr_FG1_findNeighbours (x0 : Nat) (x1 : Nat) (z_t_diagonals : Nat) (z_t_links : Nat) (z_t_steps : Nat) (z_t_queue : Nat) (k : Nat) : Nat → Nat → Nat → Nat → Nat → Option (Nat × Nat × Nat) := Nat.rec (motive := fun _ => Nat → Nat → Nat → Nat → Nat → Option (Nat × Nat × Nat)) (fun _ _ _ _ _ => none) (fun _ ih a0 a1 a2 a3 a4 => b_FG1_findNeighbours_5 ih x0 x1 z_t_diagonals z_t_links z_t_steps z_t_queue a0 a1 a2 a3 a4) k
theorem frs_FG1_findNeighbours_5 (x0 : Nat) (x1 : Nat) (z_t_diagonals : Nat) (z_t_links : Nat) (z_t_steps : Nat) (z_t_queue : Nat) (k : Nat) (l1 : Nat) (l3 : Nat) (l4 : Nat) (y_t_steps : Nat) (y_t_queue : Nat) : fr_FG1_findNeighbours x0 x1 z_t_diagonals z_t_links z_t_steps z_t_queue (k + 1) l1 l3 l4 y_t_steps y_t_queue = b_FG1_findNeighbours_5 (fr_FG1_findNeighbours x0 x1 z_t_diagonals z_t_links z_t_steps z_t_queue k) x0 x1 z_t_diagonals z_t_links z_t_steps z_t_queue l1 l3 l4 y_t_steps y_t_queue := rfl
noncomputable def e_FG1_findNeighbours (ih : Nat → Nat → Nat → Nat → Nat → Option (Nat × Nat × Nat)) (x0 : Nat) (x1 : Nat) (z_t_diagonals : Nat) (z_t_links : Nat) (z_t_steps : Nat) (z_t_queue : Nat) : Option (Nat × Nat × Nat) := (ih x0 x1 0 z_t_steps z_t_queue)
noncomputable def f_FG1_findNeighbours (x0 : Nat) (x1 : Nat) (z_t_diagonals : Nat) (z_t_links : Nat) (z_t_steps : Nat) (z_t_queue : Nat) : Option (Nat × Nat × Nat) := e_FG1_findNeighbours (fr_FG1_findNeighbours x0 x1 z_t_diagonals z_t_links z_t_steps z_t_queue 1000000) x0 x1 z_t_diagonals z_t_links z_t_steps z_t_queue
abbrev rm_FG1_findNeighbours : Room := { frames := 0, cells := 0, slots := 0, locals := 0 }
set_option maxHeartbeats 4000000 in
set_option maxRecDepth 100000 in
theorem ct_FG1_findNeighbours (l : Launch) (dC : Nat → ClassId) (dI : Nat → Nat → Nat) (K : Nat → ClassId) (q_t : Nat) (q_t_links : Nat) (q_t_steps : Nat) (q_t_queue : Nat) (f_t_links : Nat → Int32) (f_t_steps : Nat → Int32) (f_t_queue : Nat → Int32) (x0 : Nat) (x1 : Nat) (z_t_words : Nat) (z_t_diagonals : Nat) (z_t_links : Nat) (z_t_steps : Nat) (z_t_queue : Nat) (r : Nat × Nat × Nat) (hf : f_FG1_findNeighbours x0 x1 z_t_diagonals z_t_links z_t_steps z_t_queue = some r) : Ct l (dC, dI) vwCl yFG_findNeighbours wc_FG_findNeighbours rm_FG1_findNeighbours (tyK K) [.ref q_t, .int (nI x0), .int (nI x1)] (w_FG1 K q_t q_t_links q_t_steps q_t_queue f_t_links f_t_steps f_t_queue z_t_words z_t_diagonals z_t_links z_t_steps z_t_queue) (w_FG1 K q_t q_t_links q_t_steps q_t_queue f_t_links f_t_steps f_t_queue z_t_words z_t_diagonals z_t_links r.2.1 r.2.2) (some (.int (nI r.1))) := by
  intro sz
  refine Met.ofW (cc := cFG_findNeighbours) (maxL := 6) (ret := (some .int)) (by decide) rfl ?_
  intro p e s m args below meth c s₁ B hml hv
  obtain ⟨rfl, hsz, hP, hK, hD0⟩ := hv
  have hx := B.exec
  have hb := B.bytes
  have hr := B.returns
  have hts := atoms_spec (ws := wc_FG_findNeighbours) B.pre
  have hws : ∀ w ∈ WS, w.before _ s = true := fun w h => hts w (List.mem_cons_of_mem _ h)
  have hown : s.vm.findClass RFG = some m.cls := findClass_of_methodNamed B.named
  have hlocks := B.notSynchronized
  subst hsz
  have hD := hD0.self (sz := s.heap.size)
  generalize hAe : va_A (w_FG1 K q_t q_t_links q_t_steps q_t_queue f_t_links f_t_steps f_t_queue z_t_words z_t_diagonals z_t_links z_t_steps z_t_queue) s.heap.size = A at hD ⊢
  have hA : ∀ q : Nat, s.heap.size ≤ q → A q := fun q h => by rw [← hAe]; exact Or.inr h
  have hS : va_S A s.heap s.heap [] := va_S.rf
  have hl := lv_entry ([.ref q_t, .int (nI x0), .int (nI x1)]) (n := 6) (Nat.le_of_ble_eq_true rfl)
  rw [lg_entry_eq]
  generalize (lg_sl ([.ref q_t, .int (nI x0), .int (nI x1)]) ++ List.replicate (6 - (lg_sl ([.ref q_t, .int (nI x0), .int (nI x1)])).length) Slot.unset).toArray = ls at hl ⊢
  have hl : lv_has ls 6 [(0, .ref q_t), (1, .int (nI x0)), (2, .int (nI x1))] := hl
  generalize ([.ref q_t, .int (nI x0), .int (nI x1)] : List Value).toArray = args at hts hws ⊢
  generalize hQ : MQ below _ _ _ _ _ _ = Q
  have hj_67 : ∀ (ih : Nat → Nat → Nat → Nat → Nat → Option (Nat × Nat × Nat)) (IH : (∀ (l1 l3 l4 y_t_steps y_t_queue : Nat) (H : Heap) (locs : List Loc) (ls : Array Slot), ih l1 l3 l4 y_t_steps y_t_queue = some r → lv_has ls 6 [(0, .ref q_t), (1, .int (nI l1)), (3, .int (nI l3)), (4, .int (nI l4))] → va_P (dC, dI) vwCl (w_FG1 K q_t q_t_links q_t_steps q_t_queue f_t_links f_t_steps f_t_queue z_t_words z_t_diagonals z_t_links y_t_steps y_t_queue) H → va_D A (w_FG1 K q_t q_t_links q_t_steps q_t_queue f_t_links f_t_steps f_t_queue z_t_words z_t_diagonals z_t_links y_t_steps y_t_queue) → va_S A s.heap H locs → W p l e (headSpec wc_FG_findNeighbours rm_FG1_findNeighbours).room s m args below meth c H locs 0 0 Q (F0 m 5 ls []))), ∀ (l1 l3 l4 y_t_steps y_t_queue : Nat) (H : Heap) (locs : List Loc) (ls : Array Slot), j_FG1_findNeighbours_67 ih x0 x1 z_t_diagonals z_t_links z_t_steps z_t_queue l1 l3 l4 y_t_steps y_t_queue = some r → lv_has ls 6 [(0, .ref q_t), (1, .int (nI l1)), (3, .int (nI l3)), (4, .int (nI l4))] → va_P (dC, dI) vwCl (w_FG1 K q_t q_t_links q_t_steps q_t_queue f_t_links f_t_steps f_t_queue z_t_words z_t_diagonals z_t_links y_t_steps y_t_queue) H → va_D A (w_FG1 K q_t q_t_links q_t_steps q_t_queue f_t_links f_t_steps f_t_queue z_t_words z_t_diagonals z_t_links y_t_steps y_t_queue) → va_S A s.heap H locs → W p l e (headSpec wc_FG_findNeighbours rm_FG1_findNeighbours).room s m args below meth c H locs 0 0 Q (F0 m 67 ls []) := by
    intro ih IH l1 l3 l4 y_t_steps y_t_queue H locs ls hf hl hP hD hS
    unfold j_FG1_findNeighbours_67 at hf
    refine lx_iinc (k := 3) (d := 1) hx hb dFG_findNeighbours_67 hl rfl (by decide +kernel) (by decide) rfl (fun ls hl => ?_)
    refine lv_goto (tgt := 5) hx hb dFG_findNeighbours_70 (by decide) ?_
    have hf := fz_s hf
    exact IH l1 l3 (iA l4 1) y_t_steps y_t_queue _ _ _ hf (lv_sub hl [1, 2, 3, 0] rfl) hP hD hS
  have hb_5 : ∀ (ih : Nat → Nat → Nat → Nat → Nat → Option (Nat × Nat × Nat)) (IH : (∀ (l1 l3 l4 y_t_steps y_t_queue : Nat) (H : Heap) (locs : List Loc) (ls : Array Slot), ih l1 l3 l4 y_t_steps y_t_queue = some r → lv_has ls 6 [(0, .ref q_t), (1, .int (nI l1)), (3, .int (nI l3)), (4, .int (nI l4))] → va_P (dC, dI) vwCl (w_FG1 K q_t q_t_links q_t_steps q_t_queue f_t_links f_t_steps f_t_queue z_t_words z_t_diagonals z_t_links y_t_steps y_t_queue) H → va_D A (w_FG1 K q_t q_t_links q_t_steps q_t_queue f_t_links f_t_steps f_t_queue z_t_words z_t_diagonals z_t_links y_t_steps y_t_queue) → va_S A s.heap H locs → W p l e (headSpec wc_FG_findNeighbours rm_FG1_findNeighbours).room s m args below meth c H locs 0 0 Q (F0 m 5 ls []))), ∀ (l1 l3 l4 y_t_steps y_t_queue : Nat) (H : Heap) (locs : List Loc) (ls : Array Slot), b_FG1_findNeighbours_5 ih x0 x1 z_t_diagonals z_t_links z_t_steps z_t_queue l1 l3 l4 y_t_steps y_t_queue = some r → lv_has ls 6 [(0, .ref q_t), (1, .int (nI l1)), (3, .int (nI l3)), (4, .int (nI l4))] → va_P (dC, dI) vwCl (w_FG1 K q_t q_t_links q_t_steps q_t_queue f_t_links f_t_steps f_t_queue z_t_words z_t_diagonals z_t_links y_t_steps y_t_queue) H → va_D A (w_FG1 K q_t q_t_links q_t_steps q_t_queue f_t_links f_t_steps f_t_queue z_t_words z_t_diagonals z_t_links y_t_steps y_t_queue) → va_S A s.heap H locs → W p l e (headSpec wc_FG_findNeighbours rm_FG1_findNeighbours).room s m args below meth c H locs 0 0 Q (F0 m 5 ls []) := by
    intro ih IH l1 l3 l4 y_t_steps y_t_queue H locs ls hf hl hP hD hS
    unfold b_FG1_findNeighbours_5 at hf
    refine lv_iload hx hb dFG_findNeighbours_5 (lv_at hl 3 rfl) ?_
    refine lv_aload_n hx hb dFG_findNeighbours_7 rfl (lv_at hl 0 rfl) ?_
    refine va_get (D := (dC, dI)) (ci := 6) (v := .int (nI z_t_diagonals)) (C := RFG) (T := TFG) (N := 5) hx hb hws uwFG hown hK hP 0 rfl rfl 1 (by decide) (hws _ kf_FG_20) (fun _ h9 => h9) rfl dFG_findNeighbours_8 ?_
    refine lx_icmp_ge (tgt := 73) hx hb dFG_findNeighbours_11 (by decide) hf (fun hf => ?_) (fun hf => ?_)
    · refine lv_iload_n hx hb dFG_findNeighbours_73 rfl (lv_at hl 2 rfl) ?_
      obtain rfl := Option.some.inj hf
      rw [← hQ]
      exact W.iret (v := nI l3) hx hb hr (fun t ht hW => ⟨⟨rfl, by rw [ht]; exact hP⟩, hS.F ht⟩) hS.2.2 dFG_findNeighbours_74
    · refine lv_aload_n hx hb dFG_findNeighbours_14 rfl (lv_at hl 0 rfl) ?_
      refine va_get (D := (dC, dI)) (ci := 6) (v := .ref q_t_links) (C := RFG) (T := TFG) (N := 5) hx hb hws uwFG hown hK hP 0 rfl rfl 2 (by decide) (hws _ kf_FG_23) (fun _ h9 => h9) rfl dFG_findNeighbours_15 ?_
      refine lv_iload_n hx hb dFG_findNeighbours_18 rfl (lv_at hl 1 rfl) ?_
      refine lv_aload_n hx hb dFG_findNeighbours_19 rfl (lv_at hl 0 rfl) ?_
      refine va_get (D := (dC, dI)) (ci := 6) (v := .int (nI z_t_diagonals)) (C := RFG) (T := TFG) (N := 5) hx hb hws uwFG hown hK hP 0 rfl rfl 1 (by decide) (hws _ kf_FG_20) (fun _ h9 => h9) rfl dFG_findNeighbours_20 ?_
      refine lx_imul hx hb dFG_findNeighbours_23 ?_
      refine lv_iload hx hb dFG_findNeighbours_24 (lv_at hl 3 rfl) ?_
      refine lx_iadd hx hb dFG_findNeighbours_26 ?_
      refine lx_iald hx hb hK hP 1 0 rfl rfl (by decide) dFG_findNeighbours_27 hf (fun v1 _ hf => ?_)
      refine lv_istore hx hb dFG_findNeighbours_28 hl (by decide) rfl (fun ls hl => ?_)
      refine lv_aload_n hx hb dFG_findNeighbours_30 rfl (lv_at hl 1 rfl) ?_
      refine va_get (D := (dC, dI)) (ci := 6) (v := .ref q_t_steps) (C := RFG) (T := TFG) (N := 5) hx hb hws uwFG hown hK hP 0 rfl rfl 3 (by decide) (hws _ kf_FG_27) (fun _ h9 => h9) rfl dFG_findNeighbours_31 ?_
      refine lv_iload hx hb dFG_findNeighbours_34 (lv_at hl 0 rfl) ?_
      refine lx_iald hx hb hK hP 2 0 rfl rfl (by decide) dFG_findNeighbours_36 hf (fun v2 _ hf => ?_)
      refine lv_iconst (v := nI 4294967295) hx hb dFG_findNeighbours_37 (by decide +kernel) ?_
      refine lx_icmp_ne (tgt := 67) hx hb dFG_findNeighbours_38 (by decide) hf (fun hf => ?_) (fun hf => ?_)
      · exact hj_67 _ IH l1 l3 l4 y_t_steps y_t_queue _ _ _ hf (lv_sub hl [1, 2, 3, 4] rfl) hP hD hS
      · refine lv_aload_n hx hb dFG_findNeighbours_41 rfl (lv_at hl 1 rfl) ?_
        refine va_get (D := (dC, dI)) (ci := 6) (v := .ref q_t_steps) (C := RFG) (T := TFG) (N := 5) hx hb hws uwFG hown hK hP 0 rfl rfl 3 (by decide) (hws _ kf_FG_27) (fun _ h9 => h9) rfl dFG_findNeighbours_42 ?_
        refine lv_iload hx hb dFG_findNeighbours_45 (lv_at hl 0 rfl) ?_
        refine lv_aload_n hx hb dFG_findNeighbours_47 rfl (lv_at hl 1 rfl) ?_
        refine va_get (D := (dC, dI)) (ci := 6) (v := .ref q_t_steps) (C := RFG) (T := TFG) (N := 5) hx hb hws uwFG hown hK hP 0 rfl rfl 3 (by decide) (hws _ kf_FG_27) (fun _ h9 => h9) rfl dFG_findNeighbours_48 ?_
        refine lv_iload_n hx hb dFG_findNeighbours_51 rfl (lv_at hl 2 rfl) ?_
        refine lx_iald hx hb hK hP 2 0 rfl rfl (by decide) dFG_findNeighbours_52 hf (fun v3 _ hf => ?_)
        refine lv_iconst (v := nI 1) hx hb dFG_findNeighbours_53 (by decide +kernel) ?_
        refine lx_iadd hx hb dFG_findNeighbours_54 ?_
        refine lx_iast hx hb hK hP hD hS 2 0 rfl rfl (by decide) dFG_findNeighbours_55 hf (fun hf H locs hP hD hS => ?_)
        have hP : va_P (dC, dI) vwCl (w_FG1 K q_t q_t_links q_t_steps q_t_queue f_t_links f_t_steps f_t_queue z_t_words z_t_diagonals z_t_links (aw y_t_steps v1 (iA v3 1)) y_t_queue) H := hP
        have hD : va_D A (w_FG1 K q_t q_t_links q_t_steps q_t_queue f_t_links f_t_steps f_t_queue z_t_words z_t_diagonals z_t_links (aw y_t_steps v1 (iA v3 1)) y_t_queue) := hD
        refine lv_aload_n hx hb dFG_findNeighbours_56 rfl (lv_at hl 1 rfl) ?_
        refine va_get (D := (dC, dI)) (ci := 6) (v := .ref q_t_queue) (C := RFG) (T := TFG) (N := 5) hx hb hws uwFG hown hK hP 0 rfl rfl 4 (by decide) (hws _ kf_FG_30) (fun _ h9 => h9) rfl dFG_findNeighbours_57 ?_
        refine lv_iload_n hx hb dFG_findNeighbours_60 rfl (lv_at hl 3 rfl) ?_
        refine lv_iload hx hb dFG_findNeighbours_61 (lv_at hl 0 rfl) ?_
        refine lx_iast hx hb hK hP hD hS 3 0 rfl rfl (by decide) dFG_findNeighbours_63 hf (fun hf H locs hP hD hS => ?_)
        have hP : va_P (dC, dI) vwCl (w_FG1 K q_t q_t_links q_t_steps q_t_queue f_t_links f_t_steps f_t_queue z_t_words z_t_diagonals z_t_links (aw y_t_steps v1 (iA v3 1)) (aw y_t_queue l3 v1)) H := hP
        have hD : va_D A (w_FG1 K q_t q_t_links q_t_steps q_t_queue f_t_links f_t_steps f_t_queue z_t_words z_t_diagonals z_t_links (aw y_t_steps v1 (iA v3 1)) (aw y_t_queue l3 v1)) := hD
        refine lx_iinc (k := 3) (d := 1) hx hb dFG_findNeighbours_64 hl rfl (by decide +kernel) (by decide) rfl (fun ls hl => ?_)
        have hf := fz_s hf
        have hf := fz_s hf
        have hf := fz_s hf
        exact hj_67 _ IH l1 (iA l3 1) l4 (aw y_t_steps v1 (iA v3 1)) (aw y_t_queue l3 v1) _ _ _ hf (lv_sub hl [2, 3, 0, 4] rfl) hP hD hS
  have key : ∀ k : Nat, (∀ (l1 l3 l4 y_t_steps y_t_queue : Nat) (H : Heap) (locs : List Loc) (ls : Array Slot), fr_FG1_findNeighbours x0 x1 z_t_diagonals z_t_links z_t_steps z_t_queue k l1 l3 l4 y_t_steps y_t_queue = some r → lv_has ls 6 [(0, .ref q_t), (1, .int (nI l1)), (3, .int (nI l3)), (4, .int (nI l4))] → va_P (dC, dI) vwCl (w_FG1 K q_t q_t_links q_t_steps q_t_queue f_t_links f_t_steps f_t_queue z_t_words z_t_diagonals z_t_links y_t_steps y_t_queue) H → va_D A (w_FG1 K q_t q_t_links q_t_steps q_t_queue f_t_links f_t_steps f_t_queue z_t_words z_t_diagonals z_t_links y_t_steps y_t_queue) → va_S A s.heap H locs → W p l e (headSpec wc_FG_findNeighbours rm_FG1_findNeighbours).room s m args below meth c H locs 0 0 Q (F0 m 5 ls [])) := by
    intro k
    induction k with
    | zero => exact fun l1 l3 l4 y_t_steps y_t_queue H locs ls hf _ _ _ _ => no_s (α := Nat × Nat × Nat) (r := r) hf
    | succ k IH => exact fun l1 l3 l4 y_t_steps y_t_queue H locs ls hf => hb_5 (fr_FG1_findNeighbours x0 x1 z_t_diagonals z_t_links z_t_steps z_t_queue k) IH l1 l3 l4 y_t_steps y_t_queue H locs ls ((frs_FG1_findNeighbours_5 x0 x1 z_t_diagonals z_t_links z_t_steps z_t_queue k l1 l3 l4 y_t_steps y_t_queue).symm.trans hf)
  have IH := key 1000000
  have hf : e_FG1_findNeighbours (fr_FG1_findNeighbours x0 x1 z_t_diagonals z_t_links z_t_steps z_t_queue 1000000) x0 x1 z_t_diagonals z_t_links z_t_steps z_t_queue = some r := hf
  unfold e_FG1_findNeighbours at hf
  generalize fr_FG1_findNeighbours x0 x1 z_t_diagonals z_t_links z_t_steps z_t_queue 1000000 = ih at hf IH
  refine lv_iload_n hx hb dFG_findNeighbours_0 rfl (lv_at hl 2 rfl) ?_
  refine lv_istore_n hx hb dFG_findNeighbours_1 rfl hl (by decide) rfl (fun ls hl => ?_)
  refine lv_iconst (v := nI 0) hx hb dFG_findNeighbours_2 (by decide +kernel) ?_
  refine lv_istore hx hb dFG_findNeighbours_3 hl (by decide) rfl (fun ls hl => ?_)
  exact IH x0 x1 0 z_t_steps z_t_queue _ _ _ hf (lv_sub hl [2, 3, 1, 0] rfl) hP hD hS
noncomputable def j_FG1_distance_71 (ih : Nat → Nat → Nat → Nat → Nat → Option (Nat × Nat × Nat)) (x0 : Nat) (x1 : Nat) (z_t_words : Nat) (z_t_diagonals : Nat) (z_t_links : Nat) (z_t_steps : Nat) (z_t_queue : Nat) (l2 : Nat) (y_t_steps : Nat) (y_t_queue : Nat) : Option (Nat × Nat × Nat) := (rd y_t_steps 1 l2 (fun v11 => some (v11, y_t_steps, y_t_queue)))
noncomputable def b_FG1_distance_27 (ih : Nat → Nat → Nat → Nat → Nat → Option (Nat × Nat × Nat)) (x0 : Nat) (x1 : Nat) (z_t_words : Nat) (z_t_diagonals : Nat) (z_t_links : Nat) (z_t_steps : Nat) (z_t_queue : Nat) (l2 : Nat) (l3 : Nat) (l4 : Nat) (y_t_steps : Nat) (y_t_queue : Nat) : Option (Nat × Nat × Nat) := (bif iLt l4 z_t_words then (bif iLt l4 l3 then (rd y_t_steps 1 l2 (fun v4 => (bif iEq v4 4294967295 then (rd y_t_queue 1 l4 (fun v5 => (Option.bind (f_FG1_findNeighbours v5 l3 z_t_diagonals z_t_links y_t_steps y_t_queue) (fun q6 => (fz q6.1 (fun u7 => fz (iA l4 1) (fun u8 => fz q6.2.1 (fun u9 => fz q6.2.2 (fun u10 => ih l2 u7 u8 u9 u10))))))))) else (j_FG1_distance_71 ih x0 x1 z_t_words z_t_diagonals z_t_links z_t_steps z_t_queue l2 y_t_steps y_t_queue)))) else (j_FG1_distance_71 ih x0 x1 z_t_words z_t_diagonals z_t_links z_t_steps z_t_queue l2 y_t_steps y_t_queue)) else (j_FG1_distance_71 ih x0 x1 z_t_words z_t_diagonals z_t_links z_t_steps z_t_queue l2 y_t_steps y_t_queue))
noncomputable def fr_FG1_distance (x0 : Nat) (x1 : Nat) (z_t_words : Nat) (z_t_diagonals : Nat) (z_t_links : Nat) (z_t_steps : Nat) (z_t_queue : Nat) (k : Nat) : Nat → Nat → Nat → Nat → Nat → Option (Nat × Nat × Nat) := Nat.rec (motive := fun _ => Nat → Nat → Nat → Nat → Nat → Option (Nat × Nat × Nat)) (fun _ _ _ _ _ => none) (fun _ ih a0 a1 a2 a3 a4 => b_FG1_distance_27 ih x0 x1 z_t_words z_t_diagonals z_t_links z_t_steps z_t_queue a0 a1 a2 a3 a4) k
theorem frs_FG1_distance_27 (x0 : Nat) (x1 : Nat) (z_t_words : Nat) (z_t_diagonals : Nat) (z_t_links : Nat) (z_t_steps : Nat) (z_t_queue : Nat) (k : Nat) (l2 : Nat) (l3 : Nat) (l4 : Nat) (y_t_steps : Nat) (y_t_queue : Nat) : fr_FG1_distance x0 x1 z_t_words z_t_diagonals z_t_links z_t_steps z_t_queue (k + 1) l2 l3 l4 y_t_steps y_t_queue = b_FG1_distance_27 (fr_FG1_distance x0 x1 z_t_words z_t_diagonals z_t_links z_t_steps z_t_queue k) x0 x1 z_t_words z_t_diagonals z_t_links z_t_steps z_t_queue l2 l3 l4 y_t_steps y_t_queue := rfl
noncomputable def e_FG1_distance (ih : Nat → Nat → Nat → Nat → Nat → Option (Nat × Nat × Nat)) (x0 : Nat) (x1 : Nat) (z_t_words : Nat) (z_t_diagonals : Nat) (z_t_links : Nat) (z_t_steps : Nat) (z_t_queue : Nat) : Option (Nat × Nat × Nat) := (Option.bind (f_AR_fill1 4294967295 z_t_steps) (fun q1 => (bif Nat.blt x0 1 then (bif Nat.blt 0 1 then (fz (aw q1 x0 0) (fun u2 => fz (aw z_t_queue 0 x0) (fun u3 => ih x1 1 0 u2 u3))) else none) else none)))
noncomputable def f_FG1_distance (x0 : Nat) (x1 : Nat) (z_t_words : Nat) (z_t_diagonals : Nat) (z_t_links : Nat) (z_t_steps : Nat) (z_t_queue : Nat) : Option (Nat × Nat × Nat) := e_FG1_distance (fr_FG1_distance x0 x1 z_t_words z_t_diagonals z_t_links z_t_steps z_t_queue 1000000) x0 x1 z_t_words z_t_diagonals z_t_links z_t_steps z_t_queue
abbrev rm_FG1_distance : Room := { frames := 1, cells := 0, slots := 0, locals := 25 }
set_option maxHeartbeats 4000000 in
set_option maxRecDepth 100000 in
theorem ct_FG1_distance (l : Launch) (dC : Nat → ClassId) (dI : Nat → Nat → Nat) (K : Nat → ClassId) (q_t : Nat) (q_t_links : Nat) (q_t_steps : Nat) (q_t_queue : Nat) (f_t_links : Nat → Int32) (f_t_steps : Nat → Int32) (f_t_queue : Nat → Int32) (x0 : Nat) (x1 : Nat) (z_t_words : Nat) (z_t_diagonals : Nat) (z_t_links : Nat) (z_t_steps : Nat) (z_t_queue : Nat) (r : Nat × Nat × Nat) (hf : f_FG1_distance x0 x1 z_t_words z_t_diagonals z_t_links z_t_steps z_t_queue = some r) : Ct l (dC, dI) vwCl yFG_distance wc_FG_distance rm_FG1_distance (tyK K) [.ref q_t, .int (nI x0), .int (nI x1)] (w_FG1 K q_t q_t_links q_t_steps q_t_queue f_t_links f_t_steps f_t_queue z_t_words z_t_diagonals z_t_links z_t_steps z_t_queue) (w_FG1 K q_t q_t_links q_t_steps q_t_queue f_t_links f_t_steps f_t_queue z_t_words z_t_diagonals z_t_links r.2.1 r.2.2) (some (.int (nI r.1))) := by
  intro sz
  refine Met.ofW (cc := cFG_distance) (maxL := 5) (ret := (some .int)) (by decide) rfl ?_
  intro p e s m args below meth c s₁ B hml hv
  obtain ⟨rfl, hsz, hP, hK, hD0⟩ := hv
  have hx := B.exec
  have hb := B.bytes
  have hr := B.returns
  have hts := atoms_spec (ws := wc_FG_distance) B.pre
  have hws : ∀ w ∈ WS, w.before _ s = true := fun w h => hts w (List.mem_cons_of_mem _ h)
  have hown : s.vm.findClass RFG = some m.cls := findClass_of_methodNamed B.named
  have hlocks := B.notSynchronized
  subst hsz
  have hD := hD0.self (sz := s.heap.size)
  generalize hAe : va_A (w_FG1 K q_t q_t_links q_t_steps q_t_queue f_t_links f_t_steps f_t_queue z_t_words z_t_diagonals z_t_links z_t_steps z_t_queue) s.heap.size = A at hD ⊢
  have hA : ∀ q : Nat, s.heap.size ≤ q → A q := fun q h => by rw [← hAe]; exact Or.inr h
  have hS : va_S A s.heap s.heap [] := va_S.rf
  have hl := lv_entry ([.ref q_t, .int (nI x0), .int (nI x1)]) (n := 5) (Nat.le_of_ble_eq_true rfl)
  rw [lg_entry_eq]
  generalize (lg_sl ([.ref q_t, .int (nI x0), .int (nI x1)]) ++ List.replicate (5 - (lg_sl ([.ref q_t, .int (nI x0), .int (nI x1)])).length) Slot.unset).toArray = ls at hl ⊢
  have hl : lv_has ls 5 [(0, .ref q_t), (1, .int (nI x0)), (2, .int (nI x1))] := hl
  generalize ([.ref q_t, .int (nI x0), .int (nI x1)] : List Value).toArray = args at hts hws ⊢
  generalize hQ : MQ below _ _ _ _ _ _ = Q
  have hj_71 : ∀ (ih : Nat → Nat → Nat → Nat → Nat → Option (Nat × Nat × Nat)) (IH : (∀ (l2 l3 l4 y_t_steps y_t_queue : Nat) (H : Heap) (locs : List Loc) (ls : Array Slot), ih l2 l3 l4 y_t_steps y_t_queue = some r → lv_has ls 5 [(0, .ref q_t), (2, .int (nI l2)), (3, .int (nI l3)), (4, .int (nI l4))] → va_P (dC, dI) vwCl (w_FG1 K q_t q_t_links q_t_steps q_t_queue f_t_links f_t_steps f_t_queue z_t_words z_t_diagonals z_t_links y_t_steps y_t_queue) H → va_D A (w_FG1 K q_t q_t_links q_t_steps q_t_queue f_t_links f_t_steps f_t_queue z_t_words z_t_diagonals z_t_links y_t_steps y_t_queue) → va_S A s.heap H locs → W p l e (headSpec wc_FG_distance rm_FG1_distance).room s m args below meth c H locs 0 0 Q (F0 m 27 ls []))), ∀ (l2 y_t_steps y_t_queue : Nat) (H : Heap) (locs : List Loc) (ls : Array Slot), j_FG1_distance_71 ih x0 x1 z_t_words z_t_diagonals z_t_links z_t_steps z_t_queue l2 y_t_steps y_t_queue = some r → lv_has ls 5 [(0, .ref q_t), (2, .int (nI l2))] → va_P (dC, dI) vwCl (w_FG1 K q_t q_t_links q_t_steps q_t_queue f_t_links f_t_steps f_t_queue z_t_words z_t_diagonals z_t_links y_t_steps y_t_queue) H → va_D A (w_FG1 K q_t q_t_links q_t_steps q_t_queue f_t_links f_t_steps f_t_queue z_t_words z_t_diagonals z_t_links y_t_steps y_t_queue) → va_S A s.heap H locs → W p l e (headSpec wc_FG_distance rm_FG1_distance).room s m args below meth c H locs 0 0 Q (F0 m 71 ls []) := by
    intro ih IH l2 y_t_steps y_t_queue H locs ls hf hl hP hD hS
    unfold j_FG1_distance_71 at hf
    refine lv_aload_n hx hb dFG_distance_71 rfl (lv_at hl 0 rfl) ?_
    refine va_get (D := (dC, dI)) (ci := 6) (v := .ref q_t_steps) (C := RFG) (T := TFG) (N := 5) hx hb hws uwFG hown hK hP 0 rfl rfl 3 (by decide) (hws _ kf_FG_27) (fun _ h9 => h9) rfl dFG_distance_72 ?_
    refine lv_iload_n hx hb dFG_distance_75 rfl (lv_at hl 1 rfl) ?_
    refine lx_iald hx hb hK hP 2 0 rfl rfl (by decide) dFG_distance_76 hf (fun v11 _ hf => ?_)
    obtain rfl := Option.some.inj hf
    rw [← hQ]
    exact W.iret (v := nI v11) hx hb hr (fun t ht hW => ⟨⟨rfl, by rw [ht]; exact hP⟩, hS.F ht⟩) hS.2.2 dFG_distance_77
  have hb_27 : ∀ (ih : Nat → Nat → Nat → Nat → Nat → Option (Nat × Nat × Nat)) (IH : (∀ (l2 l3 l4 y_t_steps y_t_queue : Nat) (H : Heap) (locs : List Loc) (ls : Array Slot), ih l2 l3 l4 y_t_steps y_t_queue = some r → lv_has ls 5 [(0, .ref q_t), (2, .int (nI l2)), (3, .int (nI l3)), (4, .int (nI l4))] → va_P (dC, dI) vwCl (w_FG1 K q_t q_t_links q_t_steps q_t_queue f_t_links f_t_steps f_t_queue z_t_words z_t_diagonals z_t_links y_t_steps y_t_queue) H → va_D A (w_FG1 K q_t q_t_links q_t_steps q_t_queue f_t_links f_t_steps f_t_queue z_t_words z_t_diagonals z_t_links y_t_steps y_t_queue) → va_S A s.heap H locs → W p l e (headSpec wc_FG_distance rm_FG1_distance).room s m args below meth c H locs 0 0 Q (F0 m 27 ls []))), ∀ (l2 l3 l4 y_t_steps y_t_queue : Nat) (H : Heap) (locs : List Loc) (ls : Array Slot), b_FG1_distance_27 ih x0 x1 z_t_words z_t_diagonals z_t_links z_t_steps z_t_queue l2 l3 l4 y_t_steps y_t_queue = some r → lv_has ls 5 [(0, .ref q_t), (2, .int (nI l2)), (3, .int (nI l3)), (4, .int (nI l4))] → va_P (dC, dI) vwCl (w_FG1 K q_t q_t_links q_t_steps q_t_queue f_t_links f_t_steps f_t_queue z_t_words z_t_diagonals z_t_links y_t_steps y_t_queue) H → va_D A (w_FG1 K q_t q_t_links q_t_steps q_t_queue f_t_links f_t_steps f_t_queue z_t_words z_t_diagonals z_t_links y_t_steps y_t_queue) → va_S A s.heap H locs → W p l e (headSpec wc_FG_distance rm_FG1_distance).room s m args below meth c H locs 0 0 Q (F0 m 27 ls []) := by
    intro ih IH l2 l3 l4 y_t_steps y_t_queue H locs ls hf hl hP hD hS
    unfold b_FG1_distance_27 at hf
    refine lv_iload hx hb dFG_distance_27 (lv_at hl 3 rfl) ?_
    refine lv_aload_n hx hb dFG_distance_29 rfl (lv_at hl 0 rfl) ?_
    refine va_get (D := (dC, dI)) (ci := 6) (v := .int (nI z_t_words)) (C := RFG) (T := TFG) (N := 5) hx hb hws uwFG hown hK hP 0 rfl rfl 0 (by decide) (hws _ kf_FG_15) (fun _ h9 => h9) rfl dFG_distance_30 ?_
    refine lx_icmp_ge (tgt := 71) hx hb dFG_distance_33 (by decide) hf (fun hf => ?_) (fun hf => ?_)
    · exact hj_71 _ IH l2 y_t_steps y_t_queue _ _ _ hf (lv_sub hl [0, 1] rfl) hP hD hS
    · refine lv_iload hx hb dFG_distance_36 (lv_at hl 3 rfl) ?_
      refine lv_iload_n hx hb dFG_distance_38 rfl (lv_at hl 2 rfl) ?_
      refine lx_icmp_ge (tgt := 71) hx hb dFG_distance_39 (by decide) hf (fun hf => ?_) (fun hf => ?_)
      · exact hj_71 _ IH l2 y_t_steps y_t_queue _ _ _ hf (lv_sub hl [0, 1] rfl) hP hD hS
      · refine lv_aload_n hx hb dFG_distance_42 rfl (lv_at hl 0 rfl) ?_
        refine va_get (D := (dC, dI)) (ci := 6) (v := .ref q_t_steps) (C := RFG) (T := TFG) (N := 5) hx hb hws uwFG hown hK hP 0 rfl rfl 3 (by decide) (hws _ kf_FG_27) (fun _ h9 => h9) rfl dFG_distance_43 ?_
        refine lv_iload_n hx hb dFG_distance_46 rfl (lv_at hl 1 rfl) ?_
        refine lx_iald hx hb hK hP 2 0 rfl rfl (by decide) dFG_distance_47 hf (fun v4 _ hf => ?_)
        refine lv_iconst (v := nI 4294967295) hx hb dFG_distance_48 (by decide +kernel) ?_
        refine lx_icmp_ne (tgt := 71) hx hb dFG_distance_49 (by decide) hf (fun hf => ?_) (fun hf => ?_)
        · exact hj_71 _ IH l2 y_t_steps y_t_queue _ _ _ hf (lv_sub hl [0, 1] rfl) hP hD hS
        · refine lv_aload_n hx hb dFG_distance_52 rfl (lv_at hl 0 rfl) ?_
          refine lv_aload_n hx hb dFG_distance_53 rfl (lv_at hl 0 rfl) ?_
          refine va_get (D := (dC, dI)) (ci := 6) (v := .ref q_t_queue) (C := RFG) (T := TFG) (N := 5) hx hb hws uwFG hown hK hP 0 rfl rfl 4 (by decide) (hws _ kf_FG_30) (fun _ h9 => h9) rfl dFG_distance_54 ?_
          refine lv_iload hx hb dFG_distance_57 (lv_at hl 3 rfl) ?_
          refine lx_iald hx hb hK hP 3 0 rfl rfl (by decide) dFG_distance_59 hf (fun v5 _ hf => ?_)
          refine lv_iload_n hx hb dFG_distance_60 rfl (lv_at hl 2 rfl) ?_
          obtain ⟨q6, hq, hf⟩ := bd_s hf
          refine ct_callr (ws' := w_FG1 K q_t q_t_links q_t_steps q_t_queue f_t_links f_t_steps f_t_queue z_t_words z_t_diagonals z_t_links q6.2.1 q6.2.2) (va_runV (As := [.int (nI v5), .int (nI l3)]) (rest := []) ⟨hx, hb, hml, hown, hws⟩ (ct_FG1_findNeighbours l dC dI K q_t q_t_links q_t_steps q_t_queue f_t_links f_t_steps f_t_queue v5 l3 z_t_words z_t_diagonals z_t_links y_t_steps y_t_queue q6 hq _) ⟨cb_FG_findNeighbours hws rm_FG1_findNeighbours (hws _ km_FG_70) ⟨Nat.le_of_ble_eq_true rfl, Nat.le_of_ble_eq_true rfl⟩, hws _ ki_FG_findNeighbours, hws _ ke_FG_FG_findNeighbours_FG_findNeighbours⟩ ⟨ct_blind _ _ _, va_recv (ci := 6) (q0 := 0) (q := (RFG, TFG, 5)) hK hP rfl rfl, ct_pre (cs := (w_FG1 K q_t q_t_links q_t_steps q_t_queue f_t_links f_t_steps f_t_queue z_t_words z_t_diagonals z_t_links y_t_steps y_t_queue)) hP hD hK [0, 1, 2, 3] (by decide) rfl _⟩ rfl rfl hl.1 rfl (lv_room (Nat.le_of_ble_eq_true rfl)) dFG_distance_61 ⟨Nat.le_of_ble_eq_true rfl, Nat.le_of_ble_eq_true rfl⟩) hP hD hS hA [0, 1, 2, 3] rfl rfl rfl rfl (fun H locs hP hD hS => ?_)
          have hP : va_P (dC, dI) vwCl (w_FG1 K q_t q_t_links q_t_steps q_t_queue f_t_links f_t_steps f_t_queue z_t_words z_t_diagonals z_t_links q6.2.1 q6.2.2) H := hP
          have hD : va_D A (w_FG1 K q_t q_t_links q_t_steps q_t_queue f_t_links f_t_steps f_t_queue z_t_words z_t_diagonals z_t_links q6.2.1 q6.2.2) := hD
          refine lv_istore_n hx hb dFG_distance_64 rfl hl (by decide) rfl (fun ls hl => ?_)
          refine lx_iinc (k := 3) (d := 1) hx hb dFG_distance_65 hl rfl (by decide +kernel) (by decide) rfl (fun ls hl => ?_)
          refine lv_goto (tgt := 27) hx hb dFG_distance_68 (by decide) ?_
          have hf := fz_s hf
          have hf := fz_s hf
          have hf := fz_s hf
          have hf := fz_s hf
          exact IH l2 q6.1 (iA l4 1) q6.2.1 q6.2.2 _ _ _ hf (lv_sub hl [2, 3, 1, 0] rfl) hP hD hS
  have key : ∀ k : Nat, (∀ (l2 l3 l4 y_t_steps y_t_queue : Nat) (H : Heap) (locs : List Loc) (ls : Array Slot), fr_FG1_distance x0 x1 z_t_words z_t_diagonals z_t_links z_t_steps z_t_queue k l2 l3 l4 y_t_steps y_t_queue = some r → lv_has ls 5 [(0, .ref q_t), (2, .int (nI l2)), (3, .int (nI l3)), (4, .int (nI l4))] → va_P (dC, dI) vwCl (w_FG1 K q_t q_t_links q_t_steps q_t_queue f_t_links f_t_steps f_t_queue z_t_words z_t_diagonals z_t_links y_t_steps y_t_queue) H → va_D A (w_FG1 K q_t q_t_links q_t_steps q_t_queue f_t_links f_t_steps f_t_queue z_t_words z_t_diagonals z_t_links y_t_steps y_t_queue) → va_S A s.heap H locs → W p l e (headSpec wc_FG_distance rm_FG1_distance).room s m args below meth c H locs 0 0 Q (F0 m 27 ls [])) := by
    intro k
    induction k with
    | zero => exact fun l2 l3 l4 y_t_steps y_t_queue H locs ls hf _ _ _ _ => no_s (α := Nat × Nat × Nat) (r := r) hf
    | succ k IH => exact fun l2 l3 l4 y_t_steps y_t_queue H locs ls hf => hb_27 (fr_FG1_distance x0 x1 z_t_words z_t_diagonals z_t_links z_t_steps z_t_queue k) IH l2 l3 l4 y_t_steps y_t_queue H locs ls ((frs_FG1_distance_27 x0 x1 z_t_words z_t_diagonals z_t_links z_t_steps z_t_queue k l2 l3 l4 y_t_steps y_t_queue).symm.trans hf)
  have IH := key 1000000
  have hf : e_FG1_distance (fr_FG1_distance x0 x1 z_t_words z_t_diagonals z_t_links z_t_steps z_t_queue 1000000) x0 x1 z_t_words z_t_diagonals z_t_links z_t_steps z_t_queue = some r := hf
  unfold e_FG1_distance at hf
  generalize fr_FG1_distance x0 x1 z_t_words z_t_diagonals z_t_links z_t_steps z_t_queue 1000000 = ih at hf IH
  refine lv_aload_n hx hb dFG_distance_0 rfl (lv_at hl 0 rfl) ?_
  refine va_get (D := (dC, dI)) (ci := 6) (v := .ref q_t_steps) (C := RFG) (T := TFG) (N := 5) hx hb hws uwFG hown hK hP 0 rfl rfl 3 (by decide) (hws _ kf_FG_27) (fun _ h9 => h9) rfl dFG_distance_1 ?_
  refine lv_iconst (v := nI 4294967295) hx hb dFG_distance_4 (by decide +kernel) ?_
  obtain ⟨q1, hq, hf⟩ := bd_s hf
  refine ct_callv (ws' := w_FG1 K q_t q_t_links q_t_steps q_t_queue f_t_links f_t_steps f_t_queue z_t_words z_t_diagonals z_t_links q1 z_t_queue) (va_runS (As := [.ref q_t_steps, .int (nI 4294967295)]) (rest := []) ⟨hx, hb, hml, hown, hws⟩ (ct_AR_fill1 l dC dI K q_t_steps f_t_steps 4294967295 z_t_steps q1 hq _) ⟨cb_AR_fill hws rm_AR_fill1 (hws _ km_FG_64) ⟨Nat.le_of_ble_eq_true rfl, Nat.le_of_ble_eq_true rfl⟩, hws _ ks_AR_fill⟩ ⟨ct_blind _ _ _, ct_pre (cs := (wArr K 1 q_t_steps f_t_steps z_t_steps)) hP hD hK [2] (by decide) rfl _⟩ rfl rfl hl.1 rfl (lv_room (Nat.le_of_ble_eq_true rfl)) dFG_distance_5 ⟨Nat.le_of_ble_eq_true rfl, Nat.le_of_ble_eq_true rfl⟩) hP hD hS hA [2] rfl rfl rfl rfl (fun H locs hP hD hS => ?_)
  have hP : va_P (dC, dI) vwCl (w_FG1 K q_t q_t_links q_t_steps q_t_queue f_t_links f_t_steps f_t_queue z_t_words z_t_diagonals z_t_links q1 z_t_queue) H := hP
  have hD : va_D A (w_FG1 K q_t q_t_links q_t_steps q_t_queue f_t_links f_t_steps f_t_queue z_t_words z_t_diagonals z_t_links q1 z_t_queue) := hD
  refine lv_aload_n hx hb dFG_distance_8 rfl (lv_at hl 0 rfl) ?_
  refine va_get (D := (dC, dI)) (ci := 6) (v := .ref q_t_steps) (C := RFG) (T := TFG) (N := 5) hx hb hws uwFG hown hK hP 0 rfl rfl 3 (by decide) (hws _ kf_FG_27) (fun _ h9 => h9) rfl dFG_distance_9 ?_
  refine lv_iload_n hx hb dFG_distance_12 rfl (lv_at hl 1 rfl) ?_
  refine lv_iconst (v := nI 0) hx hb dFG_distance_13 (by decide +kernel) ?_
  refine lx_iast hx hb hK hP hD hS 2 0 rfl rfl (by decide) dFG_distance_14 hf (fun hf H locs hP hD hS => ?_)
  have hP : va_P (dC, dI) vwCl (w_FG1 K q_t q_t_links q_t_steps q_t_queue f_t_links f_t_steps f_t_queue z_t_words z_t_diagonals z_t_links (aw q1 x0 0) z_t_queue) H := hP
  have hD : va_D A (w_FG1 K q_t q_t_links q_t_steps q_t_queue f_t_links f_t_steps f_t_queue z_t_words z_t_diagonals z_t_links (aw q1 x0 0) z_t_queue) := hD
  refine lv_aload_n hx hb dFG_distance_15 rfl (lv_at hl 0 rfl) ?_
  refine va_get (D := (dC, dI)) (ci := 6) (v := .ref q_t_queue) (C := RFG) (T := TFG) (N := 5) hx hb hws uwFG hown hK hP 0 rfl rfl 4 (by decide) (hws _ kf_FG_30) (fun _ h9 => h9) rfl dFG_distance_16 ?_
  refine lv_iconst (v := nI 0) hx hb dFG_distance_19 (by decide +kernel) ?_
  refine lv_iload_n hx hb dFG_distance_20 rfl (lv_at hl 1 rfl) ?_
  refine lx_iast hx hb hK hP hD hS 3 0 rfl rfl (by decide) dFG_distance_21 hf (fun hf H locs hP hD hS => ?_)
  have hP : va_P (dC, dI) vwCl (w_FG1 K q_t q_t_links q_t_steps q_t_queue f_t_links f_t_steps f_t_queue z_t_words z_t_diagonals z_t_links (aw q1 x0 0) (aw z_t_queue 0 x0)) H := hP
  have hD : va_D A (w_FG1 K q_t q_t_links q_t_steps q_t_queue f_t_links f_t_steps f_t_queue z_t_words z_t_diagonals z_t_links (aw q1 x0 0) (aw z_t_queue 0 x0)) := hD
  refine lv_iconst (v := nI 1) hx hb dFG_distance_22 (by decide +kernel) ?_
  refine lv_istore_n hx hb dFG_distance_23 rfl hl (by decide) rfl (fun ls hl => ?_)
  refine lv_iconst (v := nI 0) hx hb dFG_distance_24 (by decide +kernel) ?_
  refine lv_istore hx hb dFG_distance_25 hl (by decide) rfl (fun ls hl => ?_)
  have hf := fz_s hf
  have hf := fz_s hf
  exact IH x1 1 0 (aw q1 x0 0) (aw z_t_queue 0 x0) _ _ _ hf (lv_sub hl [2, 4, 1, 0] rfl) hP hD hS
noncomputable abbrev w_FG2 (K : Nat → ClassId) (q_t : Nat) (q_t_links : Nat) (q_t_steps : Nat) (q_t_queue : Nat) (f_t_links : Nat → Int32) (f_t_steps : Nat → Int32) (f_t_queue : Nat → Int32) (z_t_words : Nat) (z_t_diagonals : Nat) (z_t_links : Nat) (z_t_steps : Nat) (z_t_queue : Nat) : va_W := [(q_t, .inr (6, [.int (nI z_t_words), .int (nI z_t_diagonals), .ref q_t_links, .ref q_t_steps, .ref q_t_queue])), (q_t_links, .inl (K 0, 2, .inl (ar f_t_links z_t_links))), (q_t_steps, .inl (K 0, 2, .inl (ar f_t_steps z_t_steps))), (q_t_queue, .inl (K 0, 2, .inl (ar f_t_queue z_t_queue)))]
noncomputable def b_AR_fill2_5 (ih : Nat → Nat → Nat → Nat → Option (Nat)) (x1 : Nat) (z_p0 : Nat) (l1 : Nat) (l2 : Nat) (l3 : Nat) (y_p0 : Nat) : Option (Nat) := (bif iLt l2 l3 then (bif Nat.blt l2 2 then (fz (iA l2 1) (fun u1 => fz (aw y_p0 l2 l1) (fun u2 => ih l1 u1 l3 u2))) else none) else some y_p0)
noncomputable def fr_AR_fill2 (x1 : Nat) (z_p0 : Nat) (k : Nat) : Nat → Nat → Nat → Nat → Option (Nat) := Nat.rec (motive := fun _ => Nat → Nat → Nat → Nat → Option (Nat)) (fun _ _ _ _ => none) (fun _ ih a0 a1 a2 a3 => b_AR_fill2_5 ih x1 z_p0 a0 a1 a2 a3) k
theorem frs_AR_fill2_5 (x1 : Nat) (z_p0 : Nat) (k : Nat) (l1 : Nat) (l2 : Nat) (l3 : Nat) (y_p0 : Nat) : fr_AR_fill2 x1 z_p0 (k + 1) l1 l2 l3 y_p0 = b_AR_fill2_5 (fr_AR_fill2 x1 z_p0 k) x1 z_p0 l1 l2 l3 y_p0 := rfl
noncomputable def e_AR_fill2 (ih : Nat → Nat → Nat → Nat → Option (Nat)) (x1 : Nat) (z_p0 : Nat) : Option (Nat) := (ih x1 0 2 z_p0)
noncomputable def f_AR_fill2 (x1 : Nat) (z_p0 : Nat) : Option (Nat) := e_AR_fill2 (fr_AR_fill2 x1 z_p0 1000000) x1 z_p0
abbrev rm_AR_fill2 : Room := { frames := 0, cells := 0, slots := 0, locals := 0 }
set_option maxHeartbeats 4000000 in
set_option maxRecDepth 100000 in
theorem ct_AR_fill2 (l : Launch) (dC : Nat → ClassId) (dI : Nat → Nat → Nat) (K : Nat → ClassId) (q_p0 : Nat) (f_p0 : Nat → Int32) (x1 : Nat) (z_p0 : Nat) (r : Nat) (hf : f_AR_fill2 x1 z_p0 = some r) : Ct l (dC, dI) vwCl yAR_fill wc_AR_fill rm_AR_fill2 (tyK K) [.ref q_p0, .int (nI x1)] (wArr K 2 q_p0 f_p0 z_p0) (wArr K 2 q_p0 f_p0 r) none := by
  intro sz
  refine Met.ofW (cc := cAR_fill) (maxL := 4) (ret := none) (by decide) rfl ?_
  intro p e s m args below meth c s₁ B hml hv
  obtain ⟨rfl, hsz, hP, hK, hD0⟩ := hv
  have hx := B.exec
  have hb := B.bytes
  have hr := B.returns
  have hts := atoms_spec (ws := wc_AR_fill) B.pre
  have hws : ∀ w ∈ WS, w.before _ s = true := fun w h => hts w (List.mem_cons_of_mem _ h)
  have hown : s.vm.findClass RAR = some m.cls := findClass_of_methodNamed B.named
  have hlocks := B.notSynchronized
  subst hsz
  have hD := hD0.self (sz := s.heap.size)
  generalize hAe : va_A (wArr K 2 q_p0 f_p0 z_p0) s.heap.size = A at hD ⊢
  have hA : ∀ q : Nat, s.heap.size ≤ q → A q := fun q h => by rw [← hAe]; exact Or.inr h
  have hS : va_S A s.heap s.heap [] := va_S.rf
  have hl := lv_entry ([.ref q_p0, .int (nI x1)]) (n := 4) (Nat.le_of_ble_eq_true rfl)
  rw [lg_entry_eq]
  generalize (lg_sl ([.ref q_p0, .int (nI x1)]) ++ List.replicate (4 - (lg_sl ([.ref q_p0, .int (nI x1)])).length) Slot.unset).toArray = ls at hl ⊢
  have hl : lv_has ls 4 [(0, .ref q_p0), (1, .int (nI x1))] := hl
  generalize ([.ref q_p0, .int (nI x1)] : List Value).toArray = args at hts hws ⊢
  generalize hQ : MQ below _ _ _ _ _ _ = Q
  have hb_5 : ∀ (ih : Nat → Nat → Nat → Nat → Option (Nat)) (IH : (∀ (l1 l2 l3 y_p0 : Nat) (H : Heap) (locs : List Loc) (ls : Array Slot), ih l1 l2 l3 y_p0 = some r → lv_has ls 4 [(0, .ref q_p0), (1, .int (nI l1)), (2, .int (nI l2)), (3, .int (nI l3))] → va_P (dC, dI) vwCl (wArr K 2 q_p0 f_p0 y_p0) H → va_D A (wArr K 2 q_p0 f_p0 y_p0) → va_S A s.heap H locs → W p l e (headSpec wc_AR_fill rm_AR_fill2).room s m args below meth c H locs 0 0 Q (F0 m 5 ls []))), ∀ (l1 l2 l3 y_p0 : Nat) (H : Heap) (locs : List Loc) (ls : Array Slot), b_AR_fill2_5 ih x1 z_p0 l1 l2 l3 y_p0 = some r → lv_has ls 4 [(0, .ref q_p0), (1, .int (nI l1)), (2, .int (nI l2)), (3, .int (nI l3))] → va_P (dC, dI) vwCl (wArr K 2 q_p0 f_p0 y_p0) H → va_D A (wArr K 2 q_p0 f_p0 y_p0) → va_S A s.heap H locs → W p l e (headSpec wc_AR_fill rm_AR_fill2).room s m args below meth c H locs 0 0 Q (F0 m 5 ls []) := by
    intro ih IH l1 l2 l3 y_p0 H locs ls hf hl hP hD hS
    unfold b_AR_fill2_5 at hf
    refine lv_iload_n hx hb dAR_fill_5 rfl (lv_at hl 2 rfl) ?_
    refine lv_iload_n hx hb dAR_fill_6 rfl (lv_at hl 3 rfl) ?_
    refine lx_icmp_ge (tgt := 20) hx hb dAR_fill_7 (by decide) hf (fun hf => ?_) (fun hf => ?_)
    · obtain rfl := Option.some.inj hf
      rw [← hQ]
      exact W.vret hx hb hr (fun t ht hW => ⟨⟨rfl, by rw [ht]; exact hP⟩, hS.F ht⟩) hS.2.2 dAR_fill_20
    · refine lv_aload_n hx hb dAR_fill_10 rfl (lv_at hl 0 rfl) ?_
      refine lv_iload_n hx hb dAR_fill_11 rfl (lv_at hl 2 rfl) ?_
      refine lv_iload_n hx hb dAR_fill_12 rfl (lv_at hl 1 rfl) ?_
      refine lx_iast hx hb hK hP hD hS 0 0 rfl rfl (by decide) dAR_fill_13 hf (fun hf H locs hP hD hS => ?_)
      have hP : va_P (dC, dI) vwCl (wArr K 2 q_p0 f_p0 (aw y_p0 l2 l1)) H := hP
      have hD : va_D A (wArr K 2 q_p0 f_p0 (aw y_p0 l2 l1)) := hD
      refine lx_iinc (k := 2) (d := 1) hx hb dAR_fill_14 hl rfl (by decide +kernel) (by decide) rfl (fun ls hl => ?_)
      refine lv_goto (tgt := 5) hx hb dAR_fill_17 (by decide) ?_
      have hf := fz_s hf
      have hf := fz_s hf
      exact IH l1 (iA l2 1) l3 (aw y_p0 l2 l1) _ _ _ hf (lv_sub hl [1, 2, 0, 3] rfl) hP hD hS
  have key : ∀ k : Nat, (∀ (l1 l2 l3 y_p0 : Nat) (H : Heap) (locs : List Loc) (ls : Array Slot), fr_AR_fill2 x1 z_p0 k l1 l2 l3 y_p0 = some r → lv_has ls 4 [(0, .ref q_p0), (1, .int (nI l1)), (2, .int (nI l2)), (3, .int (nI l3))] → va_P (dC, dI) vwCl (wArr K 2 q_p0 f_p0 y_p0) H → va_D A (wArr K 2 q_p0 f_p0 y_p0) → va_S A s.heap H locs → W p l e (headSpec wc_AR_fill rm_AR_fill2).room s m args below meth c H locs 0 0 Q (F0 m 5 ls [])) := by
    intro k
    induction k with
    | zero => exact fun l1 l2 l3 y_p0 H locs ls hf _ _ _ _ => no_s (α := Nat) (r := r) hf
    | succ k IH => exact fun l1 l2 l3 y_p0 H locs ls hf => hb_5 (fr_AR_fill2 x1 z_p0 k) IH l1 l2 l3 y_p0 H locs ls ((frs_AR_fill2_5 x1 z_p0 k l1 l2 l3 y_p0).symm.trans hf)
  have IH := key 1000000
  have hf : e_AR_fill2 (fr_AR_fill2 x1 z_p0 1000000) x1 z_p0 = some r := hf
  unfold e_AR_fill2 at hf
  generalize fr_AR_fill2 x1 z_p0 1000000 = ih at hf IH
  refine lv_iconst (v := nI 0) hx hb dAR_fill_0 (by decide +kernel) ?_
  refine lv_istore_n hx hb dAR_fill_1 rfl hl (by decide) rfl (fun ls hl => ?_)
  refine lv_aload_n hx hb dAR_fill_2 rfl (lv_at hl 1 rfl) ?_
  refine va_alen hx hb hK hP 0 0 rfl rfl (v := nI 2) rfl dAR_fill_3 ?_
  refine lv_istore_n hx hb dAR_fill_4 rfl hl (by decide) rfl (fun ls hl => ?_)
  exact IH x1 0 2 z_p0 _ _ _ hf (lv_sub hl [2, 3, 1, 0] rfl) hP hD hS
noncomputable def j_FG2_findNeighbours_67 (ih : Nat → Nat → Nat → Nat → Nat → Option (Nat × Nat × Nat)) (x0 : Nat) (x1 : Nat) (z_t_diagonals : Nat) (z_t_links : Nat) (z_t_steps : Nat) (z_t_queue : Nat) (l1 : Nat) (l3 : Nat) (l4 : Nat) (y_t_steps : Nat) (y_t_queue : Nat) : Option (Nat × Nat × Nat) := (fz (iA l4 1) (fun u7 => ih l1 l3 u7 y_t_steps y_t_queue))
noncomputable def b_FG2_findNeighbours_5 (ih : Nat → Nat → Nat → Nat → Nat → Option (Nat × Nat × Nat)) (x0 : Nat) (x1 : Nat) (z_t_diagonals : Nat) (z_t_links : Nat) (z_t_steps : Nat) (z_t_queue : Nat) (l1 : Nat) (l3 : Nat) (l4 : Nat) (y_t_steps : Nat) (y_t_queue : Nat) : Option (Nat × Nat × Nat) := (bif iLt l4 z_t_diagonals then (rd z_t_links 2 (iA (iM l1 z_t_diagonals) l4) (fun v1 => (rd y_t_steps 2 v1 (fun v2 => (bif iEq v2 4294967295 then (rd y_t_steps 2 l1 (fun v3 => (bif Nat.blt v1 2 then (bif Nat.blt l3 2 then (fz (iA l3 1) (fun u4 => fz (aw y_t_steps v1 (iA v3 1)) (fun u5 => fz (aw y_t_queue l3 v1) (fun u6 => j_FG2_findNeighbours_67 ih x0 x1 z_t_diagonals z_t_links z_t_steps z_t_queue l1 u4 l4 u5 u6)))) else none) else none))) else (j_FG2_findNeighbours_67 ih x0 x1 z_t_diagonals z_t_links z_t_steps z_t_queue l1 l3 l4 y_t_steps y_t_queue)))))) else some (l3, y_t_steps, y_t_queue))
noncomputable def fr_FG2_findNeighbours (x0 : Nat) (x1 : Nat) (z_t_diagonals : Nat) (z_t_links : Nat) (z_t_steps : Nat) (z_t_queue : Nat) (k : Nat) : Nat → Nat → Nat → Nat → Nat → Option (Nat × Nat × Nat) := Nat.rec (motive := fun _ => Nat → Nat → Nat → Nat → Nat → Option (Nat × Nat × Nat)) (fun _ _ _ _ _ => none) (fun _ ih a0 a1 a2 a3 a4 => b_FG2_findNeighbours_5 ih x0 x1 z_t_diagonals z_t_links z_t_steps z_t_queue a0 a1 a2 a3 a4) k
theorem frs_FG2_findNeighbours_5 (x0 : Nat) (x1 : Nat) (z_t_diagonals : Nat) (z_t_links : Nat) (z_t_steps : Nat) (z_t_queue : Nat) (k : Nat) (l1 : Nat) (l3 : Nat) (l4 : Nat) (y_t_steps : Nat) (y_t_queue : Nat) : fr_FG2_findNeighbours x0 x1 z_t_diagonals z_t_links z_t_steps z_t_queue (k + 1) l1 l3 l4 y_t_steps y_t_queue = b_FG2_findNeighbours_5 (fr_FG2_findNeighbours x0 x1 z_t_diagonals z_t_links z_t_steps z_t_queue k) x0 x1 z_t_diagonals z_t_links z_t_steps z_t_queue l1 l3 l4 y_t_steps y_t_queue := rfl
noncomputable def e_FG2_findNeighbours (ih : Nat → Nat → Nat → Nat → Nat → Option (Nat × Nat × Nat)) (x0 : Nat) (x1 : Nat) (z_t_diagonals : Nat) (z_t_links : Nat) (z_t_steps : Nat) (z_t_queue : Nat) : Option (Nat × Nat × Nat) := (ih x0 x1 0 z_t_steps z_t_queue)
noncomputable def f_FG2_findNeighbours (x0 : Nat) (x1 : Nat) (z_t_diagonals : Nat) (z_t_links : Nat) (z_t_steps : Nat) (z_t_queue : Nat) : Option (Nat × Nat × Nat) := e_FG2_findNeighbours (fr_FG2_findNeighbours x0 x1 z_t_diagonals z_t_links z_t_steps z_t_queue 1000000) x0 x1 z_t_diagonals z_t_links z_t_steps z_t_queue
abbrev rm_FG2_findNeighbours : Room := { frames := 0, cells := 0, slots := 0, locals := 0 }
set_option maxHeartbeats 4000000 in
set_option maxRecDepth 100000 in
theorem ct_FG2_findNeighbours (l : Launch) (dC : Nat → ClassId) (dI : Nat → Nat → Nat) (K : Nat → ClassId) (q_t : Nat) (q_t_links : Nat) (q_t_steps : Nat) (q_t_queue : Nat) (f_t_links : Nat → Int32) (f_t_steps : Nat → Int32) (f_t_queue : Nat → Int32) (x0 : Nat) (x1 : Nat) (z_t_words : Nat) (z_t_diagonals : Nat) (z_t_links : Nat) (z_t_steps : Nat) (z_t_queue : Nat) (r : Nat × Nat × Nat) (hf : f_FG2_findNeighbours x0 x1 z_t_diagonals z_t_links z_t_steps z_t_queue = some r) : Ct l (dC, dI) vwCl yFG_findNeighbours wc_FG_findNeighbours rm_FG2_findNeighbours (tyK K) [.ref q_t, .int (nI x0), .int (nI x1)] (w_FG2 K q_t q_t_links q_t_steps q_t_queue f_t_links f_t_steps f_t_queue z_t_words z_t_diagonals z_t_links z_t_steps z_t_queue) (w_FG2 K q_t q_t_links q_t_steps q_t_queue f_t_links f_t_steps f_t_queue z_t_words z_t_diagonals z_t_links r.2.1 r.2.2) (some (.int (nI r.1))) := by
  intro sz
  refine Met.ofW (cc := cFG_findNeighbours) (maxL := 6) (ret := (some .int)) (by decide) rfl ?_
  intro p e s m args below meth c s₁ B hml hv
  obtain ⟨rfl, hsz, hP, hK, hD0⟩ := hv
  have hx := B.exec
  have hb := B.bytes
  have hr := B.returns
  have hts := atoms_spec (ws := wc_FG_findNeighbours) B.pre
  have hws : ∀ w ∈ WS, w.before _ s = true := fun w h => hts w (List.mem_cons_of_mem _ h)
  have hown : s.vm.findClass RFG = some m.cls := findClass_of_methodNamed B.named
  have hlocks := B.notSynchronized
  subst hsz
  have hD := hD0.self (sz := s.heap.size)
  generalize hAe : va_A (w_FG2 K q_t q_t_links q_t_steps q_t_queue f_t_links f_t_steps f_t_queue z_t_words z_t_diagonals z_t_links z_t_steps z_t_queue) s.heap.size = A at hD ⊢
  have hA : ∀ q : Nat, s.heap.size ≤ q → A q := fun q h => by rw [← hAe]; exact Or.inr h
  have hS : va_S A s.heap s.heap [] := va_S.rf
  have hl := lv_entry ([.ref q_t, .int (nI x0), .int (nI x1)]) (n := 6) (Nat.le_of_ble_eq_true rfl)
  rw [lg_entry_eq]
  generalize (lg_sl ([.ref q_t, .int (nI x0), .int (nI x1)]) ++ List.replicate (6 - (lg_sl ([.ref q_t, .int (nI x0), .int (nI x1)])).length) Slot.unset).toArray = ls at hl ⊢
  have hl : lv_has ls 6 [(0, .ref q_t), (1, .int (nI x0)), (2, .int (nI x1))] := hl
  generalize ([.ref q_t, .int (nI x0), .int (nI x1)] : List Value).toArray = args at hts hws ⊢
  generalize hQ : MQ below _ _ _ _ _ _ = Q
  have hj_67 : ∀ (ih : Nat → Nat → Nat → Nat → Nat → Option (Nat × Nat × Nat)) (IH : (∀ (l1 l3 l4 y_t_steps y_t_queue : Nat) (H : Heap) (locs : List Loc) (ls : Array Slot), ih l1 l3 l4 y_t_steps y_t_queue = some r → lv_has ls 6 [(0, .ref q_t), (1, .int (nI l1)), (3, .int (nI l3)), (4, .int (nI l4))] → va_P (dC, dI) vwCl (w_FG2 K q_t q_t_links q_t_steps q_t_queue f_t_links f_t_steps f_t_queue z_t_words z_t_diagonals z_t_links y_t_steps y_t_queue) H → va_D A (w_FG2 K q_t q_t_links q_t_steps q_t_queue f_t_links f_t_steps f_t_queue z_t_words z_t_diagonals z_t_links y_t_steps y_t_queue) → va_S A s.heap H locs → W p l e (headSpec wc_FG_findNeighbours rm_FG2_findNeighbours).room s m args below meth c H locs 0 0 Q (F0 m 5 ls []))), ∀ (l1 l3 l4 y_t_steps y_t_queue : Nat) (H : Heap) (locs : List Loc) (ls : Array Slot), j_FG2_findNeighbours_67 ih x0 x1 z_t_diagonals z_t_links z_t_steps z_t_queue l1 l3 l4 y_t_steps y_t_queue = some r → lv_has ls 6 [(0, .ref q_t), (1, .int (nI l1)), (3, .int (nI l3)), (4, .int (nI l4))] → va_P (dC, dI) vwCl (w_FG2 K q_t q_t_links q_t_steps q_t_queue f_t_links f_t_steps f_t_queue z_t_words z_t_diagonals z_t_links y_t_steps y_t_queue) H → va_D A (w_FG2 K q_t q_t_links q_t_steps q_t_queue f_t_links f_t_steps f_t_queue z_t_words z_t_diagonals z_t_links y_t_steps y_t_queue) → va_S A s.heap H locs → W p l e (headSpec wc_FG_findNeighbours rm_FG2_findNeighbours).room s m args below meth c H locs 0 0 Q (F0 m 67 ls []) := by
    intro ih IH l1 l3 l4 y_t_steps y_t_queue H locs ls hf hl hP hD hS
    unfold j_FG2_findNeighbours_67 at hf
    refine lx_iinc (k := 3) (d := 1) hx hb dFG_findNeighbours_67 hl rfl (by decide +kernel) (by decide) rfl (fun ls hl => ?_)
    refine lv_goto (tgt := 5) hx hb dFG_findNeighbours_70 (by decide) ?_
    have hf := fz_s hf
    exact IH l1 l3 (iA l4 1) y_t_steps y_t_queue _ _ _ hf (lv_sub hl [1, 2, 3, 0] rfl) hP hD hS
  have hb_5 : ∀ (ih : Nat → Nat → Nat → Nat → Nat → Option (Nat × Nat × Nat)) (IH : (∀ (l1 l3 l4 y_t_steps y_t_queue : Nat) (H : Heap) (locs : List Loc) (ls : Array Slot), ih l1 l3 l4 y_t_steps y_t_queue = some r → lv_has ls 6 [(0, .ref q_t), (1, .int (nI l1)), (3, .int (nI l3)), (4, .int (nI l4))] → va_P (dC, dI) vwCl (w_FG2 K q_t q_t_links q_t_steps q_t_queue f_t_links f_t_steps f_t_queue z_t_words z_t_diagonals z_t_links y_t_steps y_t_queue) H → va_D A (w_FG2 K q_t q_t_links q_t_steps q_t_queue f_t_links f_t_steps f_t_queue z_t_words z_t_diagonals z_t_links y_t_steps y_t_queue) → va_S A s.heap H locs → W p l e (headSpec wc_FG_findNeighbours rm_FG2_findNeighbours).room s m args below meth c H locs 0 0 Q (F0 m 5 ls []))), ∀ (l1 l3 l4 y_t_steps y_t_queue : Nat) (H : Heap) (locs : List Loc) (ls : Array Slot), b_FG2_findNeighbours_5 ih x0 x1 z_t_diagonals z_t_links z_t_steps z_t_queue l1 l3 l4 y_t_steps y_t_queue = some r → lv_has ls 6 [(0, .ref q_t), (1, .int (nI l1)), (3, .int (nI l3)), (4, .int (nI l4))] → va_P (dC, dI) vwCl (w_FG2 K q_t q_t_links q_t_steps q_t_queue f_t_links f_t_steps f_t_queue z_t_words z_t_diagonals z_t_links y_t_steps y_t_queue) H → va_D A (w_FG2 K q_t q_t_links q_t_steps q_t_queue f_t_links f_t_steps f_t_queue z_t_words z_t_diagonals z_t_links y_t_steps y_t_queue) → va_S A s.heap H locs → W p l e (headSpec wc_FG_findNeighbours rm_FG2_findNeighbours).room s m args below meth c H locs 0 0 Q (F0 m 5 ls []) := by
    intro ih IH l1 l3 l4 y_t_steps y_t_queue H locs ls hf hl hP hD hS
    unfold b_FG2_findNeighbours_5 at hf
    refine lv_iload hx hb dFG_findNeighbours_5 (lv_at hl 3 rfl) ?_
    refine lv_aload_n hx hb dFG_findNeighbours_7 rfl (lv_at hl 0 rfl) ?_
    refine va_get (D := (dC, dI)) (ci := 6) (v := .int (nI z_t_diagonals)) (C := RFG) (T := TFG) (N := 5) hx hb hws uwFG hown hK hP 0 rfl rfl 1 (by decide) (hws _ kf_FG_20) (fun _ h9 => h9) rfl dFG_findNeighbours_8 ?_
    refine lx_icmp_ge (tgt := 73) hx hb dFG_findNeighbours_11 (by decide) hf (fun hf => ?_) (fun hf => ?_)
    · refine lv_iload_n hx hb dFG_findNeighbours_73 rfl (lv_at hl 2 rfl) ?_
      obtain rfl := Option.some.inj hf
      rw [← hQ]
      exact W.iret (v := nI l3) hx hb hr (fun t ht hW => ⟨⟨rfl, by rw [ht]; exact hP⟩, hS.F ht⟩) hS.2.2 dFG_findNeighbours_74
    · refine lv_aload_n hx hb dFG_findNeighbours_14 rfl (lv_at hl 0 rfl) ?_
      refine va_get (D := (dC, dI)) (ci := 6) (v := .ref q_t_links) (C := RFG) (T := TFG) (N := 5) hx hb hws uwFG hown hK hP 0 rfl rfl 2 (by decide) (hws _ kf_FG_23) (fun _ h9 => h9) rfl dFG_findNeighbours_15 ?_
      refine lv_iload_n hx hb dFG_findNeighbours_18 rfl (lv_at hl 1 rfl) ?_
      refine lv_aload_n hx hb dFG_findNeighbours_19 rfl (lv_at hl 0 rfl) ?_
      refine va_get (D := (dC, dI)) (ci := 6) (v := .int (nI z_t_diagonals)) (C := RFG) (T := TFG) (N := 5) hx hb hws uwFG hown hK hP 0 rfl rfl 1 (by decide) (hws _ kf_FG_20) (fun _ h9 => h9) rfl dFG_findNeighbours_20 ?_
      refine lx_imul hx hb dFG_findNeighbours_23 ?_
      refine lv_iload hx hb dFG_findNeighbours_24 (lv_at hl 3 rfl) ?_
      refine lx_iadd hx hb dFG_findNeighbours_26 ?_
      refine lx_iald hx hb hK hP 1 0 rfl rfl (by decide) dFG_findNeighbours_27 hf (fun v1 _ hf => ?_)
      refine lv_istore hx hb dFG_findNeighbours_28 hl (by decide) rfl (fun ls hl => ?_)
      refine lv_aload_n hx hb dFG_findNeighbours_30 rfl (lv_at hl 1 rfl) ?_
      refine va_get (D := (dC, dI)) (ci := 6) (v := .ref q_t_steps) (C := RFG) (T := TFG) (N := 5) hx hb hws uwFG hown hK hP 0 rfl rfl 3 (by decide) (hws _ kf_FG_27) (fun _ h9 => h9) rfl dFG_findNeighbours_31 ?_
      refine lv_iload hx hb dFG_findNeighbours_34 (lv_at hl 0 rfl) ?_
      refine lx_iald hx hb hK hP 2 0 rfl rfl (by decide) dFG_findNeighbours_36 hf (fun v2 _ hf => ?_)
      refine lv_iconst (v := nI 4294967295) hx hb dFG_findNeighbours_37 (by decide +kernel) ?_
      refine lx_icmp_ne (tgt := 67) hx hb dFG_findNeighbours_38 (by decide) hf (fun hf => ?_) (fun hf => ?_)
      · exact hj_67 _ IH l1 l3 l4 y_t_steps y_t_queue _ _ _ hf (lv_sub hl [1, 2, 3, 4] rfl) hP hD hS
      · refine lv_aload_n hx hb dFG_findNeighbours_41 rfl (lv_at hl 1 rfl) ?_
        refine va_get (D := (dC, dI)) (ci := 6) (v := .ref q_t_steps) (C := RFG) (T := TFG) (N := 5) hx hb hws uwFG hown hK hP 0 rfl rfl 3 (by decide) (hws _ kf_FG_27) (fun _ h9 => h9) rfl dFG_findNeighbours_42 ?_
        refine lv_iload hx hb dFG_findNeighbours_45 (lv_at hl 0 rfl) ?_
        refine lv_aload_n hx hb dFG_findNeighbours_47 rfl (lv_at hl 1 rfl) ?_
        refine va_get (D := (dC, dI)) (ci := 6) (v := .ref q_t_steps) (C := RFG) (T := TFG) (N := 5) hx hb hws uwFG hown hK hP 0 rfl rfl 3 (by decide) (hws _ kf_FG_27) (fun _ h9 => h9) rfl dFG_findNeighbours_48 ?_
        refine lv_iload_n hx hb dFG_findNeighbours_51 rfl (lv_at hl 2 rfl) ?_
        refine lx_iald hx hb hK hP 2 0 rfl rfl (by decide) dFG_findNeighbours_52 hf (fun v3 _ hf => ?_)
        refine lv_iconst (v := nI 1) hx hb dFG_findNeighbours_53 (by decide +kernel) ?_
        refine lx_iadd hx hb dFG_findNeighbours_54 ?_
        refine lx_iast hx hb hK hP hD hS 2 0 rfl rfl (by decide) dFG_findNeighbours_55 hf (fun hf H locs hP hD hS => ?_)
        have hP : va_P (dC, dI) vwCl (w_FG2 K q_t q_t_links q_t_steps q_t_queue f_t_links f_t_steps f_t_queue z_t_words z_t_diagonals z_t_links (aw y_t_steps v1 (iA v3 1)) y_t_queue) H := hP
        have hD : va_D A (w_FG2 K q_t q_t_links q_t_steps q_t_queue f_t_links f_t_steps f_t_queue z_t_words z_t_diagonals z_t_links (aw y_t_steps v1 (iA v3 1)) y_t_queue) := hD
        refine lv_aload_n hx hb dFG_findNeighbours_56 rfl (lv_at hl 1 rfl) ?_
        refine va_get (D := (dC, dI)) (ci := 6) (v := .ref q_t_queue) (C := RFG) (T := TFG) (N := 5) hx hb hws uwFG hown hK hP 0 rfl rfl 4 (by decide) (hws _ kf_FG_30) (fun _ h9 => h9) rfl dFG_findNeighbours_57 ?_
        refine lv_iload_n hx hb dFG_findNeighbours_60 rfl (lv_at hl 3 rfl) ?_
        refine lv_iload hx hb dFG_findNeighbours_61 (lv_at hl 0 rfl) ?_
        refine lx_iast hx hb hK hP hD hS 3 0 rfl rfl (by decide) dFG_findNeighbours_63 hf (fun hf H locs hP hD hS => ?_)
        have hP : va_P (dC, dI) vwCl (w_FG2 K q_t q_t_links q_t_steps q_t_queue f_t_links f_t_steps f_t_queue z_t_words z_t_diagonals z_t_links (aw y_t_steps v1 (iA v3 1)) (aw y_t_queue l3 v1)) H := hP
        have hD : va_D A (w_FG2 K q_t q_t_links q_t_steps q_t_queue f_t_links f_t_steps f_t_queue z_t_words z_t_diagonals z_t_links (aw y_t_steps v1 (iA v3 1)) (aw y_t_queue l3 v1)) := hD
        refine lx_iinc (k := 3) (d := 1) hx hb dFG_findNeighbours_64 hl rfl (by decide +kernel) (by decide) rfl (fun ls hl => ?_)
        have hf := fz_s hf
        have hf := fz_s hf
        have hf := fz_s hf
        exact hj_67 _ IH l1 (iA l3 1) l4 (aw y_t_steps v1 (iA v3 1)) (aw y_t_queue l3 v1) _ _ _ hf (lv_sub hl [2, 3, 0, 4] rfl) hP hD hS
  have key : ∀ k : Nat, (∀ (l1 l3 l4 y_t_steps y_t_queue : Nat) (H : Heap) (locs : List Loc) (ls : Array Slot), fr_FG2_findNeighbours x0 x1 z_t_diagonals z_t_links z_t_steps z_t_queue k l1 l3 l4 y_t_steps y_t_queue = some r → lv_has ls 6 [(0, .ref q_t), (1, .int (nI l1)), (3, .int (nI l3)), (4, .int (nI l4))] → va_P (dC, dI) vwCl (w_FG2 K q_t q_t_links q_t_steps q_t_queue f_t_links f_t_steps f_t_queue z_t_words z_t_diagonals z_t_links y_t_steps y_t_queue) H → va_D A (w_FG2 K q_t q_t_links q_t_steps q_t_queue f_t_links f_t_steps f_t_queue z_t_words z_t_diagonals z_t_links y_t_steps y_t_queue) → va_S A s.heap H locs → W p l e (headSpec wc_FG_findNeighbours rm_FG2_findNeighbours).room s m args below meth c H locs 0 0 Q (F0 m 5 ls [])) := by
    intro k
    induction k with
    | zero => exact fun l1 l3 l4 y_t_steps y_t_queue H locs ls hf _ _ _ _ => no_s (α := Nat × Nat × Nat) (r := r) hf
    | succ k IH => exact fun l1 l3 l4 y_t_steps y_t_queue H locs ls hf => hb_5 (fr_FG2_findNeighbours x0 x1 z_t_diagonals z_t_links z_t_steps z_t_queue k) IH l1 l3 l4 y_t_steps y_t_queue H locs ls ((frs_FG2_findNeighbours_5 x0 x1 z_t_diagonals z_t_links z_t_steps z_t_queue k l1 l3 l4 y_t_steps y_t_queue).symm.trans hf)
  have IH := key 1000000
  have hf : e_FG2_findNeighbours (fr_FG2_findNeighbours x0 x1 z_t_diagonals z_t_links z_t_steps z_t_queue 1000000) x0 x1 z_t_diagonals z_t_links z_t_steps z_t_queue = some r := hf
  unfold e_FG2_findNeighbours at hf
  generalize fr_FG2_findNeighbours x0 x1 z_t_diagonals z_t_links z_t_steps z_t_queue 1000000 = ih at hf IH
  refine lv_iload_n hx hb dFG_findNeighbours_0 rfl (lv_at hl 2 rfl) ?_
  refine lv_istore_n hx hb dFG_findNeighbours_1 rfl hl (by decide) rfl (fun ls hl => ?_)
  refine lv_iconst (v := nI 0) hx hb dFG_findNeighbours_2 (by decide +kernel) ?_
  refine lv_istore hx hb dFG_findNeighbours_3 hl (by decide) rfl (fun ls hl => ?_)
  exact IH x0 x1 0 z_t_steps z_t_queue _ _ _ hf (lv_sub hl [2, 3, 1, 0] rfl) hP hD hS
noncomputable def j_FG2_distance_71 (ih : Nat → Nat → Nat → Nat → Nat → Option (Nat × Nat × Nat)) (x0 : Nat) (x1 : Nat) (z_t_words : Nat) (z_t_diagonals : Nat) (z_t_links : Nat) (z_t_steps : Nat) (z_t_queue : Nat) (l2 : Nat) (y_t_steps : Nat) (y_t_queue : Nat) : Option (Nat × Nat × Nat) := (rd y_t_steps 2 l2 (fun v11 => some (v11, y_t_steps, y_t_queue)))
noncomputable def b_FG2_distance_27 (ih : Nat → Nat → Nat → Nat → Nat → Option (Nat × Nat × Nat)) (x0 : Nat) (x1 : Nat) (z_t_words : Nat) (z_t_diagonals : Nat) (z_t_links : Nat) (z_t_steps : Nat) (z_t_queue : Nat) (l2 : Nat) (l3 : Nat) (l4 : Nat) (y_t_steps : Nat) (y_t_queue : Nat) : Option (Nat × Nat × Nat) := (bif iLt l4 z_t_words then (bif iLt l4 l3 then (rd y_t_steps 2 l2 (fun v4 => (bif iEq v4 4294967295 then (rd y_t_queue 2 l4 (fun v5 => (Option.bind (f_FG2_findNeighbours v5 l3 z_t_diagonals z_t_links y_t_steps y_t_queue) (fun q6 => (fz q6.1 (fun u7 => fz (iA l4 1) (fun u8 => fz q6.2.1 (fun u9 => fz q6.2.2 (fun u10 => ih l2 u7 u8 u9 u10))))))))) else (j_FG2_distance_71 ih x0 x1 z_t_words z_t_diagonals z_t_links z_t_steps z_t_queue l2 y_t_steps y_t_queue)))) else (j_FG2_distance_71 ih x0 x1 z_t_words z_t_diagonals z_t_links z_t_steps z_t_queue l2 y_t_steps y_t_queue)) else (j_FG2_distance_71 ih x0 x1 z_t_words z_t_diagonals z_t_links z_t_steps z_t_queue l2 y_t_steps y_t_queue))
noncomputable def fr_FG2_distance (x0 : Nat) (x1 : Nat) (z_t_words : Nat) (z_t_diagonals : Nat) (z_t_links : Nat) (z_t_steps : Nat) (z_t_queue : Nat) (k : Nat) : Nat → Nat → Nat → Nat → Nat → Option (Nat × Nat × Nat) := Nat.rec (motive := fun _ => Nat → Nat → Nat → Nat → Nat → Option (Nat × Nat × Nat)) (fun _ _ _ _ _ => none) (fun _ ih a0 a1 a2 a3 a4 => b_FG2_distance_27 ih x0 x1 z_t_words z_t_diagonals z_t_links z_t_steps z_t_queue a0 a1 a2 a3 a4) k
theorem frs_FG2_distance_27 (x0 : Nat) (x1 : Nat) (z_t_words : Nat) (z_t_diagonals : Nat) (z_t_links : Nat) (z_t_steps : Nat) (z_t_queue : Nat) (k : Nat) (l2 : Nat) (l3 : Nat) (l4 : Nat) (y_t_steps : Nat) (y_t_queue : Nat) : fr_FG2_distance x0 x1 z_t_words z_t_diagonals z_t_links z_t_steps z_t_queue (k + 1) l2 l3 l4 y_t_steps y_t_queue = b_FG2_distance_27 (fr_FG2_distance x0 x1 z_t_words z_t_diagonals z_t_links z_t_steps z_t_queue k) x0 x1 z_t_words z_t_diagonals z_t_links z_t_steps z_t_queue l2 l3 l4 y_t_steps y_t_queue := rfl
noncomputable def e_FG2_distance (ih : Nat → Nat → Nat → Nat → Nat → Option (Nat × Nat × Nat)) (x0 : Nat) (x1 : Nat) (z_t_words : Nat) (z_t_diagonals : Nat) (z_t_links : Nat) (z_t_steps : Nat) (z_t_queue : Nat) : Option (Nat × Nat × Nat) := (Option.bind (f_AR_fill2 4294967295 z_t_steps) (fun q1 => (bif Nat.blt x0 2 then (bif Nat.blt 0 2 then (fz (aw q1 x0 0) (fun u2 => fz (aw z_t_queue 0 x0) (fun u3 => ih x1 1 0 u2 u3))) else none) else none)))
noncomputable def f_FG2_distance (x0 : Nat) (x1 : Nat) (z_t_words : Nat) (z_t_diagonals : Nat) (z_t_links : Nat) (z_t_steps : Nat) (z_t_queue : Nat) : Option (Nat × Nat × Nat) := e_FG2_distance (fr_FG2_distance x0 x1 z_t_words z_t_diagonals z_t_links z_t_steps z_t_queue 1000000) x0 x1 z_t_words z_t_diagonals z_t_links z_t_steps z_t_queue
abbrev rm_FG2_distance : Room := { frames := 1, cells := 0, slots := 0, locals := 25 }
set_option maxHeartbeats 4000000 in
set_option maxRecDepth 100000 in
theorem ct_FG2_distance (l : Launch) (dC : Nat → ClassId) (dI : Nat → Nat → Nat) (K : Nat → ClassId) (q_t : Nat) (q_t_links : Nat) (q_t_steps : Nat) (q_t_queue : Nat) (f_t_links : Nat → Int32) (f_t_steps : Nat → Int32) (f_t_queue : Nat → Int32) (x0 : Nat) (x1 : Nat) (z_t_words : Nat) (z_t_diagonals : Nat) (z_t_links : Nat) (z_t_steps : Nat) (z_t_queue : Nat) (r : Nat × Nat × Nat) (hf : f_FG2_distance x0 x1 z_t_words z_t_diagonals z_t_links z_t_steps z_t_queue = some r) : Ct l (dC, dI) vwCl yFG_distance wc_FG_distance rm_FG2_distance (tyK K) [.ref q_t, .int (nI x0), .int (nI x1)] (w_FG2 K q_t q_t_links q_t_steps q_t_queue f_t_links f_t_steps f_t_queue z_t_words z_t_diagonals z_t_links z_t_steps z_t_queue) (w_FG2 K q_t q_t_links q_t_steps q_t_queue f_t_links f_t_steps f_t_queue z_t_words z_t_diagonals z_t_links r.2.1 r.2.2) (some (.int (nI r.1))) := by
  intro sz
  refine Met.ofW (cc := cFG_distance) (maxL := 5) (ret := (some .int)) (by decide) rfl ?_
  intro p e s m args below meth c s₁ B hml hv
  obtain ⟨rfl, hsz, hP, hK, hD0⟩ := hv
  have hx := B.exec
  have hb := B.bytes
  have hr := B.returns
  have hts := atoms_spec (ws := wc_FG_distance) B.pre
  have hws : ∀ w ∈ WS, w.before _ s = true := fun w h => hts w (List.mem_cons_of_mem _ h)
  have hown : s.vm.findClass RFG = some m.cls := findClass_of_methodNamed B.named
  have hlocks := B.notSynchronized
  subst hsz
  have hD := hD0.self (sz := s.heap.size)
  generalize hAe : va_A (w_FG2 K q_t q_t_links q_t_steps q_t_queue f_t_links f_t_steps f_t_queue z_t_words z_t_diagonals z_t_links z_t_steps z_t_queue) s.heap.size = A at hD ⊢
  have hA : ∀ q : Nat, s.heap.size ≤ q → A q := fun q h => by rw [← hAe]; exact Or.inr h
  have hS : va_S A s.heap s.heap [] := va_S.rf
  have hl := lv_entry ([.ref q_t, .int (nI x0), .int (nI x1)]) (n := 5) (Nat.le_of_ble_eq_true rfl)
  rw [lg_entry_eq]
  generalize (lg_sl ([.ref q_t, .int (nI x0), .int (nI x1)]) ++ List.replicate (5 - (lg_sl ([.ref q_t, .int (nI x0), .int (nI x1)])).length) Slot.unset).toArray = ls at hl ⊢
  have hl : lv_has ls 5 [(0, .ref q_t), (1, .int (nI x0)), (2, .int (nI x1))] := hl
  generalize ([.ref q_t, .int (nI x0), .int (nI x1)] : List Value).toArray = args at hts hws ⊢
  generalize hQ : MQ below _ _ _ _ _ _ = Q
  have hj_71 : ∀ (ih : Nat → Nat → Nat → Nat → Nat → Option (Nat × Nat × Nat)) (IH : (∀ (l2 l3 l4 y_t_steps y_t_queue : Nat) (H : Heap) (locs : List Loc) (ls : Array Slot), ih l2 l3 l4 y_t_steps y_t_queue = some r → lv_has ls 5 [(0, .ref q_t), (2, .int (nI l2)), (3, .int (nI l3)), (4, .int (nI l4))] → va_P (dC, dI) vwCl (w_FG2 K q_t q_t_links q_t_steps q_t_queue f_t_links f_t_steps f_t_queue z_t_words z_t_diagonals z_t_links y_t_steps y_t_queue) H → va_D A (w_FG2 K q_t q_t_links q_t_steps q_t_queue f_t_links f_t_steps f_t_queue z_t_words z_t_diagonals z_t_links y_t_steps y_t_queue) → va_S A s.heap H locs → W p l e (headSpec wc_FG_distance rm_FG2_distance).room s m args below meth c H locs 0 0 Q (F0 m 27 ls []))), ∀ (l2 y_t_steps y_t_queue : Nat) (H : Heap) (locs : List Loc) (ls : Array Slot), j_FG2_distance_71 ih x0 x1 z_t_words z_t_diagonals z_t_links z_t_steps z_t_queue l2 y_t_steps y_t_queue = some r → lv_has ls 5 [(0, .ref q_t), (2, .int (nI l2))] → va_P (dC, dI) vwCl (w_FG2 K q_t q_t_links q_t_steps q_t_queue f_t_links f_t_steps f_t_queue z_t_words z_t_diagonals z_t_links y_t_steps y_t_queue) H → va_D A (w_FG2 K q_t q_t_links q_t_steps q_t_queue f_t_links f_t_steps f_t_queue z_t_words z_t_diagonals z_t_links y_t_steps y_t_queue) → va_S A s.heap H locs → W p l e (headSpec wc_FG_distance rm_FG2_distance).room s m args below meth c H locs 0 0 Q (F0 m 71 ls []) := by
    intro ih IH l2 y_t_steps y_t_queue H locs ls hf hl hP hD hS
    unfold j_FG2_distance_71 at hf
    refine lv_aload_n hx hb dFG_distance_71 rfl (lv_at hl 0 rfl) ?_
    refine va_get (D := (dC, dI)) (ci := 6) (v := .ref q_t_steps) (C := RFG) (T := TFG) (N := 5) hx hb hws uwFG hown hK hP 0 rfl rfl 3 (by decide) (hws _ kf_FG_27) (fun _ h9 => h9) rfl dFG_distance_72 ?_
    refine lv_iload_n hx hb dFG_distance_75 rfl (lv_at hl 1 rfl) ?_
    refine lx_iald hx hb hK hP 2 0 rfl rfl (by decide) dFG_distance_76 hf (fun v11 _ hf => ?_)
    obtain rfl := Option.some.inj hf
    rw [← hQ]
    exact W.iret (v := nI v11) hx hb hr (fun t ht hW => ⟨⟨rfl, by rw [ht]; exact hP⟩, hS.F ht⟩) hS.2.2 dFG_distance_77
  have hb_27 : ∀ (ih : Nat → Nat → Nat → Nat → Nat → Option (Nat × Nat × Nat)) (IH : (∀ (l2 l3 l4 y_t_steps y_t_queue : Nat) (H : Heap) (locs : List Loc) (ls : Array Slot), ih l2 l3 l4 y_t_steps y_t_queue = some r → lv_has ls 5 [(0, .ref q_t), (2, .int (nI l2)), (3, .int (nI l3)), (4, .int (nI l4))] → va_P (dC, dI) vwCl (w_FG2 K q_t q_t_links q_t_steps q_t_queue f_t_links f_t_steps f_t_queue z_t_words z_t_diagonals z_t_links y_t_steps y_t_queue) H → va_D A (w_FG2 K q_t q_t_links q_t_steps q_t_queue f_t_links f_t_steps f_t_queue z_t_words z_t_diagonals z_t_links y_t_steps y_t_queue) → va_S A s.heap H locs → W p l e (headSpec wc_FG_distance rm_FG2_distance).room s m args below meth c H locs 0 0 Q (F0 m 27 ls []))), ∀ (l2 l3 l4 y_t_steps y_t_queue : Nat) (H : Heap) (locs : List Loc) (ls : Array Slot), b_FG2_distance_27 ih x0 x1 z_t_words z_t_diagonals z_t_links z_t_steps z_t_queue l2 l3 l4 y_t_steps y_t_queue = some r → lv_has ls 5 [(0, .ref q_t), (2, .int (nI l2)), (3, .int (nI l3)), (4, .int (nI l4))] → va_P (dC, dI) vwCl (w_FG2 K q_t q_t_links q_t_steps q_t_queue f_t_links f_t_steps f_t_queue z_t_words z_t_diagonals z_t_links y_t_steps y_t_queue) H → va_D A (w_FG2 K q_t q_t_links q_t_steps q_t_queue f_t_links f_t_steps f_t_queue z_t_words z_t_diagonals z_t_links y_t_steps y_t_queue) → va_S A s.heap H locs → W p l e (headSpec wc_FG_distance rm_FG2_distance).room s m args below meth c H locs 0 0 Q (F0 m 27 ls []) := by
    intro ih IH l2 l3 l4 y_t_steps y_t_queue H locs ls hf hl hP hD hS
    unfold b_FG2_distance_27 at hf
    refine lv_iload hx hb dFG_distance_27 (lv_at hl 3 rfl) ?_
    refine lv_aload_n hx hb dFG_distance_29 rfl (lv_at hl 0 rfl) ?_
    refine va_get (D := (dC, dI)) (ci := 6) (v := .int (nI z_t_words)) (C := RFG) (T := TFG) (N := 5) hx hb hws uwFG hown hK hP 0 rfl rfl 0 (by decide) (hws _ kf_FG_15) (fun _ h9 => h9) rfl dFG_distance_30 ?_
    refine lx_icmp_ge (tgt := 71) hx hb dFG_distance_33 (by decide) hf (fun hf => ?_) (fun hf => ?_)
    · exact hj_71 _ IH l2 y_t_steps y_t_queue _ _ _ hf (lv_sub hl [0, 1] rfl) hP hD hS
    · refine lv_iload hx hb dFG_distance_36 (lv_at hl 3 rfl) ?_
      refine lv_iload_n hx hb dFG_distance_38 rfl (lv_at hl 2 rfl) ?_
      refine lx_icmp_ge (tgt := 71) hx hb dFG_distance_39 (by decide) hf (fun hf => ?_) (fun hf => ?_)
      · exact hj_71 _ IH l2 y_t_steps y_t_queue _ _ _ hf (lv_sub hl [0, 1] rfl) hP hD hS
      · refine lv_aload_n hx hb dFG_distance_42 rfl (lv_at hl 0 rfl) ?_
        refine va_get (D := (dC, dI)) (ci := 6) (v := .ref q_t_steps) (C := RFG) (T := TFG) (N := 5) hx hb hws uwFG hown hK hP 0 rfl rfl 3 (by decide) (hws _ kf_FG_27) (fun _ h9 => h9) rfl dFG_distance_43 ?_
        refine lv_iload_n hx hb dFG_distance_46 rfl (lv_at hl 1 rfl) ?_
        refine lx_iald hx hb hK hP 2 0 rfl rfl (by decide) dFG_distance_47 hf (fun v4 _ hf => ?_)
        refine lv_iconst (v := nI 4294967295) hx hb dFG_distance_48 (by decide +kernel) ?_
        refine lx_icmp_ne (tgt := 71) hx hb dFG_distance_49 (by decide) hf (fun hf => ?_) (fun hf => ?_)
        · exact hj_71 _ IH l2 y_t_steps y_t_queue _ _ _ hf (lv_sub hl [0, 1] rfl) hP hD hS
        · refine lv_aload_n hx hb dFG_distance_52 rfl (lv_at hl 0 rfl) ?_
          refine lv_aload_n hx hb dFG_distance_53 rfl (lv_at hl 0 rfl) ?_
          refine va_get (D := (dC, dI)) (ci := 6) (v := .ref q_t_queue) (C := RFG) (T := TFG) (N := 5) hx hb hws uwFG hown hK hP 0 rfl rfl 4 (by decide) (hws _ kf_FG_30) (fun _ h9 => h9) rfl dFG_distance_54 ?_
          refine lv_iload hx hb dFG_distance_57 (lv_at hl 3 rfl) ?_
          refine lx_iald hx hb hK hP 3 0 rfl rfl (by decide) dFG_distance_59 hf (fun v5 _ hf => ?_)
          refine lv_iload_n hx hb dFG_distance_60 rfl (lv_at hl 2 rfl) ?_
          obtain ⟨q6, hq, hf⟩ := bd_s hf
          refine ct_callr (ws' := w_FG2 K q_t q_t_links q_t_steps q_t_queue f_t_links f_t_steps f_t_queue z_t_words z_t_diagonals z_t_links q6.2.1 q6.2.2) (va_runV (As := [.int (nI v5), .int (nI l3)]) (rest := []) ⟨hx, hb, hml, hown, hws⟩ (ct_FG2_findNeighbours l dC dI K q_t q_t_links q_t_steps q_t_queue f_t_links f_t_steps f_t_queue v5 l3 z_t_words z_t_diagonals z_t_links y_t_steps y_t_queue q6 hq _) ⟨cb_FG_findNeighbours hws rm_FG2_findNeighbours (hws _ km_FG_70) ⟨Nat.le_of_ble_eq_true rfl, Nat.le_of_ble_eq_true rfl⟩, hws _ ki_FG_findNeighbours, hws _ ke_FG_FG_findNeighbours_FG_findNeighbours⟩ ⟨ct_blind _ _ _, va_recv (ci := 6) (q0 := 0) (q := (RFG, TFG, 5)) hK hP rfl rfl, ct_pre (cs := (w_FG2 K q_t q_t_links q_t_steps q_t_queue f_t_links f_t_steps f_t_queue z_t_words z_t_diagonals z_t_links y_t_steps y_t_queue)) hP hD hK [0, 1, 2, 3] (by decide) rfl _⟩ rfl rfl hl.1 rfl (lv_room (Nat.le_of_ble_eq_true rfl)) dFG_distance_61 ⟨Nat.le_of_ble_eq_true rfl, Nat.le_of_ble_eq_true rfl⟩) hP hD hS hA [0, 1, 2, 3] rfl rfl rfl rfl (fun H locs hP hD hS => ?_)
          have hP : va_P (dC, dI) vwCl (w_FG2 K q_t q_t_links q_t_steps q_t_queue f_t_links f_t_steps f_t_queue z_t_words z_t_diagonals z_t_links q6.2.1 q6.2.2) H := hP
          have hD : va_D A (w_FG2 K q_t q_t_links q_t_steps q_t_queue f_t_links f_t_steps f_t_queue z_t_words z_t_diagonals z_t_links q6.2.1 q6.2.2) := hD
          refine lv_istore_n hx hb dFG_distance_64 rfl hl (by decide) rfl (fun ls hl => ?_)
          refine lx_iinc (k := 3) (d := 1) hx hb dFG_distance_65 hl rfl (by decide +kernel) (by decide) rfl (fun ls hl => ?_)
          refine lv_goto (tgt := 27) hx hb dFG_distance_68 (by decide) ?_
          have hf := fz_s hf
          have hf := fz_s hf
          have hf := fz_s hf
          have hf := fz_s hf
          exact IH l2 q6.1 (iA l4 1) q6.2.1 q6.2.2 _ _ _ hf (lv_sub hl [2, 3, 1, 0] rfl) hP hD hS
  have key : ∀ k : Nat, (∀ (l2 l3 l4 y_t_steps y_t_queue : Nat) (H : Heap) (locs : List Loc) (ls : Array Slot), fr_FG2_distance x0 x1 z_t_words z_t_diagonals z_t_links z_t_steps z_t_queue k l2 l3 l4 y_t_steps y_t_queue = some r → lv_has ls 5 [(0, .ref q_t), (2, .int (nI l2)), (3, .int (nI l3)), (4, .int (nI l4))] → va_P (dC, dI) vwCl (w_FG2 K q_t q_t_links q_t_steps q_t_queue f_t_links f_t_steps f_t_queue z_t_words z_t_diagonals z_t_links y_t_steps y_t_queue) H → va_D A (w_FG2 K q_t q_t_links q_t_steps q_t_queue f_t_links f_t_steps f_t_queue z_t_words z_t_diagonals z_t_links y_t_steps y_t_queue) → va_S A s.heap H locs → W p l e (headSpec wc_FG_distance rm_FG2_distance).room s m args below meth c H locs 0 0 Q (F0 m 27 ls [])) := by
    intro k
    induction k with
    | zero => exact fun l2 l3 l4 y_t_steps y_t_queue H locs ls hf _ _ _ _ => no_s (α := Nat × Nat × Nat) (r := r) hf
    | succ k IH => exact fun l2 l3 l4 y_t_steps y_t_queue H locs ls hf => hb_27 (fr_FG2_distance x0 x1 z_t_words z_t_diagonals z_t_links z_t_steps z_t_queue k) IH l2 l3 l4 y_t_steps y_t_queue H locs ls ((frs_FG2_distance_27 x0 x1 z_t_words z_t_diagonals z_t_links z_t_steps z_t_queue k l2 l3 l4 y_t_steps y_t_queue).symm.trans hf)
  have IH := key 1000000
  have hf : e_FG2_distance (fr_FG2_distance x0 x1 z_t_words z_t_diagonals z_t_links z_t_steps z_t_queue 1000000) x0 x1 z_t_words z_t_diagonals z_t_links z_t_steps z_t_queue = some r := hf
  unfold e_FG2_distance at hf
  generalize fr_FG2_distance x0 x1 z_t_words z_t_diagonals z_t_links z_t_steps z_t_queue 1000000 = ih at hf IH
  refine lv_aload_n hx hb dFG_distance_0 rfl (lv_at hl 0 rfl) ?_
  refine va_get (D := (dC, dI)) (ci := 6) (v := .ref q_t_steps) (C := RFG) (T := TFG) (N := 5) hx hb hws uwFG hown hK hP 0 rfl rfl 3 (by decide) (hws _ kf_FG_27) (fun _ h9 => h9) rfl dFG_distance_1 ?_
  refine lv_iconst (v := nI 4294967295) hx hb dFG_distance_4 (by decide +kernel) ?_
  obtain ⟨q1, hq, hf⟩ := bd_s hf
  refine ct_callv (ws' := w_FG2 K q_t q_t_links q_t_steps q_t_queue f_t_links f_t_steps f_t_queue z_t_words z_t_diagonals z_t_links q1 z_t_queue) (va_runS (As := [.ref q_t_steps, .int (nI 4294967295)]) (rest := []) ⟨hx, hb, hml, hown, hws⟩ (ct_AR_fill2 l dC dI K q_t_steps f_t_steps 4294967295 z_t_steps q1 hq _) ⟨cb_AR_fill hws rm_AR_fill2 (hws _ km_FG_64) ⟨Nat.le_of_ble_eq_true rfl, Nat.le_of_ble_eq_true rfl⟩, hws _ ks_AR_fill⟩ ⟨ct_blind _ _ _, ct_pre (cs := (wArr K 2 q_t_steps f_t_steps z_t_steps)) hP hD hK [2] (by decide) rfl _⟩ rfl rfl hl.1 rfl (lv_room (Nat.le_of_ble_eq_true rfl)) dFG_distance_5 ⟨Nat.le_of_ble_eq_true rfl, Nat.le_of_ble_eq_true rfl⟩) hP hD hS hA [2] rfl rfl rfl rfl (fun H locs hP hD hS => ?_)
  have hP : va_P (dC, dI) vwCl (w_FG2 K q_t q_t_links q_t_steps q_t_queue f_t_links f_t_steps f_t_queue z_t_words z_t_diagonals z_t_links q1 z_t_queue) H := hP
  have hD : va_D A (w_FG2 K q_t q_t_links q_t_steps q_t_queue f_t_links f_t_steps f_t_queue z_t_words z_t_diagonals z_t_links q1 z_t_queue) := hD
  refine lv_aload_n hx hb dFG_distance_8 rfl (lv_at hl 0 rfl) ?_
  refine va_get (D := (dC, dI)) (ci := 6) (v := .ref q_t_steps) (C := RFG) (T := TFG) (N := 5) hx hb hws uwFG hown hK hP 0 rfl rfl 3 (by decide) (hws _ kf_FG_27) (fun _ h9 => h9) rfl dFG_distance_9 ?_
  refine lv_iload_n hx hb dFG_distance_12 rfl (lv_at hl 1 rfl) ?_
  refine lv_iconst (v := nI 0) hx hb dFG_distance_13 (by decide +kernel) ?_
  refine lx_iast hx hb hK hP hD hS 2 0 rfl rfl (by decide) dFG_distance_14 hf (fun hf H locs hP hD hS => ?_)
  have hP : va_P (dC, dI) vwCl (w_FG2 K q_t q_t_links q_t_steps q_t_queue f_t_links f_t_steps f_t_queue z_t_words z_t_diagonals z_t_links (aw q1 x0 0) z_t_queue) H := hP
  have hD : va_D A (w_FG2 K q_t q_t_links q_t_steps q_t_queue f_t_links f_t_steps f_t_queue z_t_words z_t_diagonals z_t_links (aw q1 x0 0) z_t_queue) := hD
  refine lv_aload_n hx hb dFG_distance_15 rfl (lv_at hl 0 rfl) ?_
  refine va_get (D := (dC, dI)) (ci := 6) (v := .ref q_t_queue) (C := RFG) (T := TFG) (N := 5) hx hb hws uwFG hown hK hP 0 rfl rfl 4 (by decide) (hws _ kf_FG_30) (fun _ h9 => h9) rfl dFG_distance_16 ?_
  refine lv_iconst (v := nI 0) hx hb dFG_distance_19 (by decide +kernel) ?_
  refine lv_iload_n hx hb dFG_distance_20 rfl (lv_at hl 1 rfl) ?_
  refine lx_iast hx hb hK hP hD hS 3 0 rfl rfl (by decide) dFG_distance_21 hf (fun hf H locs hP hD hS => ?_)
  have hP : va_P (dC, dI) vwCl (w_FG2 K q_t q_t_links q_t_steps q_t_queue f_t_links f_t_steps f_t_queue z_t_words z_t_diagonals z_t_links (aw q1 x0 0) (aw z_t_queue 0 x0)) H := hP
  have hD : va_D A (w_FG2 K q_t q_t_links q_t_steps q_t_queue f_t_links f_t_steps f_t_queue z_t_words z_t_diagonals z_t_links (aw q1 x0 0) (aw z_t_queue 0 x0)) := hD
  refine lv_iconst (v := nI 1) hx hb dFG_distance_22 (by decide +kernel) ?_
  refine lv_istore_n hx hb dFG_distance_23 rfl hl (by decide) rfl (fun ls hl => ?_)
  refine lv_iconst (v := nI 0) hx hb dFG_distance_24 (by decide +kernel) ?_
  refine lv_istore hx hb dFG_distance_25 hl (by decide) rfl (fun ls hl => ?_)
  have hf := fz_s hf
  have hf := fz_s hf
  exact IH x1 1 0 (aw q1 x0 0) (aw z_t_queue 0 x0) _ _ _ hf (lv_sub hl [2, 4, 1, 0] rfl) hP hD hS
noncomputable abbrev w_FG3 (K : Nat → ClassId) (q_t : Nat) (q_t_links : Nat) (q_t_steps : Nat) (q_t_queue : Nat) (f_t_links : Nat → Int32) (f_t_steps : Nat → Int32) (f_t_queue : Nat → Int32) (z_t_words : Nat) (z_t_diagonals : Nat) (z_t_links : Nat) (z_t_steps : Nat) (z_t_queue : Nat) : va_W := [(q_t, .inr (6, [.int (nI z_t_words), .int (nI z_t_diagonals), .ref q_t_links, .ref q_t_steps, .ref q_t_queue])), (q_t_links, .inl (K 0, 10, .inl (ar f_t_links z_t_links))), (q_t_steps, .inl (K 0, 5, .inl (ar f_t_steps z_t_steps))), (q_t_queue, .inl (K 0, 5, .inl (ar f_t_queue z_t_queue)))]
noncomputable def b_AR_fill5_5 (ih : Nat → Nat → Nat → Nat → Option (Nat)) (x1 : Nat) (z_p0 : Nat) (l1 : Nat) (l2 : Nat) (l3 : Nat) (y_p0 : Nat) : Option (Nat) := (bif iLt l2 l3 then (bif Nat.blt l2 5 then (fz (iA l2 1) (fun u1 => fz (aw y_p0 l2 l1) (fun u2 => ih l1 u1 l3 u2))) else none) else some y_p0)
noncomputable def fr_AR_fill5 (x1 : Nat) (z_p0 : Nat) (k : Nat) : Nat → Nat → Nat → Nat → Option (Nat) := Nat.rec (motive := fun _ => Nat → Nat → Nat → Nat → Option (Nat)) (fun _ _ _ _ => none) (fun _ ih a0 a1 a2 a3 => b_AR_fill5_5 ih x1 z_p0 a0 a1 a2 a3) k
theorem frs_AR_fill5_5 (x1 : Nat) (z_p0 : Nat) (k : Nat) (l1 : Nat) (l2 : Nat) (l3 : Nat) (y_p0 : Nat) : fr_AR_fill5 x1 z_p0 (k + 1) l1 l2 l3 y_p0 = b_AR_fill5_5 (fr_AR_fill5 x1 z_p0 k) x1 z_p0 l1 l2 l3 y_p0 := rfl
noncomputable def e_AR_fill5 (ih : Nat → Nat → Nat → Nat → Option (Nat)) (x1 : Nat) (z_p0 : Nat) : Option (Nat) := (ih x1 0 5 z_p0)
noncomputable def f_AR_fill5 (x1 : Nat) (z_p0 : Nat) : Option (Nat) := e_AR_fill5 (fr_AR_fill5 x1 z_p0 1000000) x1 z_p0
abbrev rm_AR_fill5 : Room := { frames := 0, cells := 0, slots := 0, locals := 0 }
set_option maxHeartbeats 4000000 in
set_option maxRecDepth 100000 in
theorem ct_AR_fill5 (l : Launch) (dC : Nat → ClassId) (dI : Nat → Nat → Nat) (K : Nat → ClassId) (q_p0 : Nat) (f_p0 : Nat → Int32) (x1 : Nat) (z_p0 : Nat) (r : Nat) (hf : f_AR_fill5 x1 z_p0 = some r) : Ct l (dC, dI) vwCl yAR_fill wc_AR_fill rm_AR_fill5 (tyK K) [.ref q_p0, .int (nI x1)] (wArr K 5 q_p0 f_p0 z_p0) (wArr K 5 q_p0 f_p0 r) none := by
  intro sz
  refine Met.ofW (cc := cAR_fill) (maxL := 4) (ret := none) (by decide) rfl ?_
  intro p e s m args below meth c s₁ B hml hv
  obtain ⟨rfl, hsz, hP, hK, hD0⟩ := hv
  have hx := B.exec
  have hb := B.bytes
  have hr := B.returns
  have hts := atoms_spec (ws := wc_AR_fill) B.pre
  have hws : ∀ w ∈ WS, w.before _ s = true := fun w h => hts w (List.mem_cons_of_mem _ h)
  have hown : s.vm.findClass RAR = some m.cls := findClass_of_methodNamed B.named
  have hlocks := B.notSynchronized
  subst hsz
  have hD := hD0.self (sz := s.heap.size)
  generalize hAe : va_A (wArr K 5 q_p0 f_p0 z_p0) s.heap.size = A at hD ⊢
  have hA : ∀ q : Nat, s.heap.size ≤ q → A q := fun q h => by rw [← hAe]; exact Or.inr h
  have hS : va_S A s.heap s.heap [] := va_S.rf
  have hl := lv_entry ([.ref q_p0, .int (nI x1)]) (n := 4) (Nat.le_of_ble_eq_true rfl)
  rw [lg_entry_eq]
  generalize (lg_sl ([.ref q_p0, .int (nI x1)]) ++ List.replicate (4 - (lg_sl ([.ref q_p0, .int (nI x1)])).length) Slot.unset).toArray = ls at hl ⊢
  have hl : lv_has ls 4 [(0, .ref q_p0), (1, .int (nI x1))] := hl
  generalize ([.ref q_p0, .int (nI x1)] : List Value).toArray = args at hts hws ⊢
  generalize hQ : MQ below _ _ _ _ _ _ = Q
  have hb_5 : ∀ (ih : Nat → Nat → Nat → Nat → Option (Nat)) (IH : (∀ (l1 l2 l3 y_p0 : Nat) (H : Heap) (locs : List Loc) (ls : Array Slot), ih l1 l2 l3 y_p0 = some r → lv_has ls 4 [(0, .ref q_p0), (1, .int (nI l1)), (2, .int (nI l2)), (3, .int (nI l3))] → va_P (dC, dI) vwCl (wArr K 5 q_p0 f_p0 y_p0) H → va_D A (wArr K 5 q_p0 f_p0 y_p0) → va_S A s.heap H locs → W p l e (headSpec wc_AR_fill rm_AR_fill5).room s m args below meth c H locs 0 0 Q (F0 m 5 ls []))), ∀ (l1 l2 l3 y_p0 : Nat) (H : Heap) (locs : List Loc) (ls : Array Slot), b_AR_fill5_5 ih x1 z_p0 l1 l2 l3 y_p0 = some r → lv_has ls 4 [(0, .ref q_p0), (1, .int (nI l1)), (2, .int (nI l2)), (3, .int (nI l3))] → va_P (dC, dI) vwCl (wArr K 5 q_p0 f_p0 y_p0) H → va_D A (wArr K 5 q_p0 f_p0 y_p0) → va_S A s.heap H locs → W p l e (headSpec wc_AR_fill rm_AR_fill5).room s m args below meth c H locs 0 0 Q (F0 m 5 ls []) := by
    intro ih IH l1 l2 l3 y_p0 H locs ls hf hl hP hD hS
    unfold b_AR_fill5_5 at hf
    refine lv_iload_n hx hb dAR_fill_5 rfl (lv_at hl 2 rfl) ?_
    refine lv_iload_n hx hb dAR_fill_6 rfl (lv_at hl 3 rfl) ?_
    refine lx_icmp_ge (tgt := 20) hx hb dAR_fill_7 (by decide) hf (fun hf => ?_) (fun hf => ?_)
    · obtain rfl := Option.some.inj hf
      rw [← hQ]
      exact W.vret hx hb hr (fun t ht hW => ⟨⟨rfl, by rw [ht]; exact hP⟩, hS.F ht⟩) hS.2.2 dAR_fill_20
    · refine lv_aload_n hx hb dAR_fill_10 rfl (lv_at hl 0 rfl) ?_
      refine lv_iload_n hx hb dAR_fill_11 rfl (lv_at hl 2 rfl) ?_
      refine lv_iload_n hx hb dAR_fill_12 rfl (lv_at hl 1 rfl) ?_
      refine lx_iast hx hb hK hP hD hS 0 0 rfl rfl (by decide) dAR_fill_13 hf (fun hf H locs hP hD hS => ?_)
      have hP : va_P (dC, dI) vwCl (wArr K 5 q_p0 f_p0 (aw y_p0 l2 l1)) H := hP
      have hD : va_D A (wArr K 5 q_p0 f_p0 (aw y_p0 l2 l1)) := hD
      refine lx_iinc (k := 2) (d := 1) hx hb dAR_fill_14 hl rfl (by decide +kernel) (by decide) rfl (fun ls hl => ?_)
      refine lv_goto (tgt := 5) hx hb dAR_fill_17 (by decide) ?_
      have hf := fz_s hf
      have hf := fz_s hf
      exact IH l1 (iA l2 1) l3 (aw y_p0 l2 l1) _ _ _ hf (lv_sub hl [1, 2, 0, 3] rfl) hP hD hS
  have key : ∀ k : Nat, (∀ (l1 l2 l3 y_p0 : Nat) (H : Heap) (locs : List Loc) (ls : Array Slot), fr_AR_fill5 x1 z_p0 k l1 l2 l3 y_p0 = some r → lv_has ls 4 [(0, .ref q_p0), (1, .int (nI l1)), (2, .int (nI l2)), (3, .int (nI l3))] → va_P (dC, dI) vwCl (wArr K 5 q_p0 f_p0 y_p0) H → va_D A (wArr K 5 q_p0 f_p0 y_p0) → va_S A s.heap H locs → W p l e (headSpec wc_AR_fill rm_AR_fill5).room s m args below meth c H locs 0 0 Q (F0 m 5 ls [])) := by
    intro k
    induction k with
    | zero => exact fun l1 l2 l3 y_p0 H locs ls hf _ _ _ _ => no_s (α := Nat) (r := r) hf
    | succ k IH => exact fun l1 l2 l3 y_p0 H locs ls hf => hb_5 (fr_AR_fill5 x1 z_p0 k) IH l1 l2 l3 y_p0 H locs ls ((frs_AR_fill5_5 x1 z_p0 k l1 l2 l3 y_p0).symm.trans hf)
  have IH := key 1000000
  have hf : e_AR_fill5 (fr_AR_fill5 x1 z_p0 1000000) x1 z_p0 = some r := hf
  unfold e_AR_fill5 at hf
  generalize fr_AR_fill5 x1 z_p0 1000000 = ih at hf IH
  refine lv_iconst (v := nI 0) hx hb dAR_fill_0 (by decide +kernel) ?_
  refine lv_istore_n hx hb dAR_fill_1 rfl hl (by decide) rfl (fun ls hl => ?_)
  refine lv_aload_n hx hb dAR_fill_2 rfl (lv_at hl 1 rfl) ?_
  refine va_alen hx hb hK hP 0 0 rfl rfl (v := nI 5) rfl dAR_fill_3 ?_
  refine lv_istore_n hx hb dAR_fill_4 rfl hl (by decide) rfl (fun ls hl => ?_)
  exact IH x1 0 5 z_p0 _ _ _ hf (lv_sub hl [2, 3, 1, 0] rfl) hP hD hS
noncomputable def j_FG3_findNeighbours_67 (ih : Nat → Nat → Nat → Nat → Nat → Option (Nat × Nat × Nat)) (x0 : Nat) (x1 : Nat) (z_t_diagonals : Nat) (z_t_links : Nat) (z_t_steps : Nat) (z_t_queue : Nat) (l1 : Nat) (l3 : Nat) (l4 : Nat) (y_t_steps : Nat) (y_t_queue : Nat) : Option (Nat × Nat × Nat) := (fz (iA l4 1) (fun u7 => ih l1 l3 u7 y_t_steps y_t_queue))
noncomputable def b_FG3_findNeighbours_5 (ih : Nat → Nat → Nat → Nat → Nat → Option (Nat × Nat × Nat)) (x0 : Nat) (x1 : Nat) (z_t_diagonals : Nat) (z_t_links : Nat) (z_t_steps : Nat) (z_t_queue : Nat) (l1 : Nat) (l3 : Nat) (l4 : Nat) (y_t_steps : Nat) (y_t_queue : Nat) : Option (Nat × Nat × Nat) := (bif iLt l4 z_t_diagonals then (rd z_t_links 10 (iA (iM l1 z_t_diagonals) l4) (fun v1 => (rd y_t_steps 5 v1 (fun v2 => (bif iEq v2 4294967295 then (rd y_t_steps 5 l1 (fun v3 => (bif Nat.blt v1 5 then (bif Nat.blt l3 5 then (fz (iA l3 1) (fun u4 => fz (aw y_t_steps v1 (iA v3 1)) (fun u5 => fz (aw y_t_queue l3 v1) (fun u6 => j_FG3_findNeighbours_67 ih x0 x1 z_t_diagonals z_t_links z_t_steps z_t_queue l1 u4 l4 u5 u6)))) else none) else none))) else (j_FG3_findNeighbours_67 ih x0 x1 z_t_diagonals z_t_links z_t_steps z_t_queue l1 l3 l4 y_t_steps y_t_queue)))))) else some (l3, y_t_steps, y_t_queue))
noncomputable def fr_FG3_findNeighbours (x0 : Nat) (x1 : Nat) (z_t_diagonals : Nat) (z_t_links : Nat) (z_t_steps : Nat) (z_t_queue : Nat) (k : Nat) : Nat → Nat → Nat → Nat → Nat → Option (Nat × Nat × Nat) := Nat.rec (motive := fun _ => Nat → Nat → Nat → Nat → Nat → Option (Nat × Nat × Nat)) (fun _ _ _ _ _ => none) (fun _ ih a0 a1 a2 a3 a4 => b_FG3_findNeighbours_5 ih x0 x1 z_t_diagonals z_t_links z_t_steps z_t_queue a0 a1 a2 a3 a4) k
theorem frs_FG3_findNeighbours_5 (x0 : Nat) (x1 : Nat) (z_t_diagonals : Nat) (z_t_links : Nat) (z_t_steps : Nat) (z_t_queue : Nat) (k : Nat) (l1 : Nat) (l3 : Nat) (l4 : Nat) (y_t_steps : Nat) (y_t_queue : Nat) : fr_FG3_findNeighbours x0 x1 z_t_diagonals z_t_links z_t_steps z_t_queue (k + 1) l1 l3 l4 y_t_steps y_t_queue = b_FG3_findNeighbours_5 (fr_FG3_findNeighbours x0 x1 z_t_diagonals z_t_links z_t_steps z_t_queue k) x0 x1 z_t_diagonals z_t_links z_t_steps z_t_queue l1 l3 l4 y_t_steps y_t_queue := rfl
noncomputable def e_FG3_findNeighbours (ih : Nat → Nat → Nat → Nat → Nat → Option (Nat × Nat × Nat)) (x0 : Nat) (x1 : Nat) (z_t_diagonals : Nat) (z_t_links : Nat) (z_t_steps : Nat) (z_t_queue : Nat) : Option (Nat × Nat × Nat) := (ih x0 x1 0 z_t_steps z_t_queue)
noncomputable def f_FG3_findNeighbours (x0 : Nat) (x1 : Nat) (z_t_diagonals : Nat) (z_t_links : Nat) (z_t_steps : Nat) (z_t_queue : Nat) : Option (Nat × Nat × Nat) := e_FG3_findNeighbours (fr_FG3_findNeighbours x0 x1 z_t_diagonals z_t_links z_t_steps z_t_queue 1000000) x0 x1 z_t_diagonals z_t_links z_t_steps z_t_queue
abbrev rm_FG3_findNeighbours : Room := { frames := 0, cells := 0, slots := 0, locals := 0 }
set_option maxHeartbeats 4000000 in
set_option maxRecDepth 100000 in
theorem ct_FG3_findNeighbours (l : Launch) (dC : Nat → ClassId) (dI : Nat → Nat → Nat) (K : Nat → ClassId) (q_t : Nat) (q_t_links : Nat) (q_t_steps : Nat) (q_t_queue : Nat) (f_t_links : Nat → Int32) (f_t_steps : Nat → Int32) (f_t_queue : Nat → Int32) (x0 : Nat) (x1 : Nat) (z_t_words : Nat) (z_t_diagonals : Nat) (z_t_links : Nat) (z_t_steps : Nat) (z_t_queue : Nat) (r : Nat × Nat × Nat) (hf : f_FG3_findNeighbours x0 x1 z_t_diagonals z_t_links z_t_steps z_t_queue = some r) : Ct l (dC, dI) vwCl yFG_findNeighbours wc_FG_findNeighbours rm_FG3_findNeighbours (tyK K) [.ref q_t, .int (nI x0), .int (nI x1)] (w_FG3 K q_t q_t_links q_t_steps q_t_queue f_t_links f_t_steps f_t_queue z_t_words z_t_diagonals z_t_links z_t_steps z_t_queue) (w_FG3 K q_t q_t_links q_t_steps q_t_queue f_t_links f_t_steps f_t_queue z_t_words z_t_diagonals z_t_links r.2.1 r.2.2) (some (.int (nI r.1))) := by
  intro sz
  refine Met.ofW (cc := cFG_findNeighbours) (maxL := 6) (ret := (some .int)) (by decide) rfl ?_
  intro p e s m args below meth c s₁ B hml hv
  obtain ⟨rfl, hsz, hP, hK, hD0⟩ := hv
  have hx := B.exec
  have hb := B.bytes
  have hr := B.returns
  have hts := atoms_spec (ws := wc_FG_findNeighbours) B.pre
  have hws : ∀ w ∈ WS, w.before _ s = true := fun w h => hts w (List.mem_cons_of_mem _ h)
  have hown : s.vm.findClass RFG = some m.cls := findClass_of_methodNamed B.named
  have hlocks := B.notSynchronized
  subst hsz
  have hD := hD0.self (sz := s.heap.size)
  generalize hAe : va_A (w_FG3 K q_t q_t_links q_t_steps q_t_queue f_t_links f_t_steps f_t_queue z_t_words z_t_diagonals z_t_links z_t_steps z_t_queue) s.heap.size = A at hD ⊢
  have hA : ∀ q : Nat, s.heap.size ≤ q → A q := fun q h => by rw [← hAe]; exact Or.inr h
  have hS : va_S A s.heap s.heap [] := va_S.rf
  have hl := lv_entry ([.ref q_t, .int (nI x0), .int (nI x1)]) (n := 6) (Nat.le_of_ble_eq_true rfl)
  rw [lg_entry_eq]
  generalize (lg_sl ([.ref q_t, .int (nI x0), .int (nI x1)]) ++ List.replicate (6 - (lg_sl ([.ref q_t, .int (nI x0), .int (nI x1)])).length) Slot.unset).toArray = ls at hl ⊢
  have hl : lv_has ls 6 [(0, .ref q_t), (1, .int (nI x0)), (2, .int (nI x1))] := hl
  generalize ([.ref q_t, .int (nI x0), .int (nI x1)] : List Value).toArray = args at hts hws ⊢
  generalize hQ : MQ below _ _ _ _ _ _ = Q
  have hj_67 : ∀ (ih : Nat → Nat → Nat → Nat → Nat → Option (Nat × Nat × Nat)) (IH : (∀ (l1 l3 l4 y_t_steps y_t_queue : Nat) (H : Heap) (locs : List Loc) (ls : Array Slot), ih l1 l3 l4 y_t_steps y_t_queue = some r → lv_has ls 6 [(0, .ref q_t), (1, .int (nI l1)), (3, .int (nI l3)), (4, .int (nI l4))] → va_P (dC, dI) vwCl (w_FG3 K q_t q_t_links q_t_steps q_t_queue f_t_links f_t_steps f_t_queue z_t_words z_t_diagonals z_t_links y_t_steps y_t_queue) H → va_D A (w_FG3 K q_t q_t_links q_t_steps q_t_queue f_t_links f_t_steps f_t_queue z_t_words z_t_diagonals z_t_links y_t_steps y_t_queue) → va_S A s.heap H locs → W p l e (headSpec wc_FG_findNeighbours rm_FG3_findNeighbours).room s m args below meth c H locs 0 0 Q (F0 m 5 ls []))), ∀ (l1 l3 l4 y_t_steps y_t_queue : Nat) (H : Heap) (locs : List Loc) (ls : Array Slot), j_FG3_findNeighbours_67 ih x0 x1 z_t_diagonals z_t_links z_t_steps z_t_queue l1 l3 l4 y_t_steps y_t_queue = some r → lv_has ls 6 [(0, .ref q_t), (1, .int (nI l1)), (3, .int (nI l3)), (4, .int (nI l4))] → va_P (dC, dI) vwCl (w_FG3 K q_t q_t_links q_t_steps q_t_queue f_t_links f_t_steps f_t_queue z_t_words z_t_diagonals z_t_links y_t_steps y_t_queue) H → va_D A (w_FG3 K q_t q_t_links q_t_steps q_t_queue f_t_links f_t_steps f_t_queue z_t_words z_t_diagonals z_t_links y_t_steps y_t_queue) → va_S A s.heap H locs → W p l e (headSpec wc_FG_findNeighbours rm_FG3_findNeighbours).room s m args below meth c H locs 0 0 Q (F0 m 67 ls []) := by
    intro ih IH l1 l3 l4 y_t_steps y_t_queue H locs ls hf hl hP hD hS
    unfold j_FG3_findNeighbours_67 at hf
    refine lx_iinc (k := 3) (d := 1) hx hb dFG_findNeighbours_67 hl rfl (by decide +kernel) (by decide) rfl (fun ls hl => ?_)
    refine lv_goto (tgt := 5) hx hb dFG_findNeighbours_70 (by decide) ?_
    have hf := fz_s hf
    exact IH l1 l3 (iA l4 1) y_t_steps y_t_queue _ _ _ hf (lv_sub hl [1, 2, 3, 0] rfl) hP hD hS
  have hb_5 : ∀ (ih : Nat → Nat → Nat → Nat → Nat → Option (Nat × Nat × Nat)) (IH : (∀ (l1 l3 l4 y_t_steps y_t_queue : Nat) (H : Heap) (locs : List Loc) (ls : Array Slot), ih l1 l3 l4 y_t_steps y_t_queue = some r → lv_has ls 6 [(0, .ref q_t), (1, .int (nI l1)), (3, .int (nI l3)), (4, .int (nI l4))] → va_P (dC, dI) vwCl (w_FG3 K q_t q_t_links q_t_steps q_t_queue f_t_links f_t_steps f_t_queue z_t_words z_t_diagonals z_t_links y_t_steps y_t_queue) H → va_D A (w_FG3 K q_t q_t_links q_t_steps q_t_queue f_t_links f_t_steps f_t_queue z_t_words z_t_diagonals z_t_links y_t_steps y_t_queue) → va_S A s.heap H locs → W p l e (headSpec wc_FG_findNeighbours rm_FG3_findNeighbours).room s m args below meth c H locs 0 0 Q (F0 m 5 ls []))), ∀ (l1 l3 l4 y_t_steps y_t_queue : Nat) (H : Heap) (locs : List Loc) (ls : Array Slot), b_FG3_findNeighbours_5 ih x0 x1 z_t_diagonals z_t_links z_t_steps z_t_queue l1 l3 l4 y_t_steps y_t_queue = some r → lv_has ls 6 [(0, .ref q_t), (1, .int (nI l1)), (3, .int (nI l3)), (4, .int (nI l4))] → va_P (dC, dI) vwCl (w_FG3 K q_t q_t_links q_t_steps q_t_queue f_t_links f_t_steps f_t_queue z_t_words z_t_diagonals z_t_links y_t_steps y_t_queue) H → va_D A (w_FG3 K q_t q_t_links q_t_steps q_t_queue f_t_links f_t_steps f_t_queue z_t_words z_t_diagonals z_t_links y_t_steps y_t_queue) → va_S A s.heap H locs → W p l e (headSpec wc_FG_findNeighbours rm_FG3_findNeighbours).room s m args below meth c H locs 0 0 Q (F0 m 5 ls []) := by
    intro ih IH l1 l3 l4 y_t_steps y_t_queue H locs ls hf hl hP hD hS
    unfold b_FG3_findNeighbours_5 at hf
    refine lv_iload hx hb dFG_findNeighbours_5 (lv_at hl 3 rfl) ?_
    refine lv_aload_n hx hb dFG_findNeighbours_7 rfl (lv_at hl 0 rfl) ?_
    refine va_get (D := (dC, dI)) (ci := 6) (v := .int (nI z_t_diagonals)) (C := RFG) (T := TFG) (N := 5) hx hb hws uwFG hown hK hP 0 rfl rfl 1 (by decide) (hws _ kf_FG_20) (fun _ h9 => h9) rfl dFG_findNeighbours_8 ?_
    refine lx_icmp_ge (tgt := 73) hx hb dFG_findNeighbours_11 (by decide) hf (fun hf => ?_) (fun hf => ?_)
    · refine lv_iload_n hx hb dFG_findNeighbours_73 rfl (lv_at hl 2 rfl) ?_
      obtain rfl := Option.some.inj hf
      rw [← hQ]
      exact W.iret (v := nI l3) hx hb hr (fun t ht hW => ⟨⟨rfl, by rw [ht]; exact hP⟩, hS.F ht⟩) hS.2.2 dFG_findNeighbours_74
    · refine lv_aload_n hx hb dFG_findNeighbours_14 rfl (lv_at hl 0 rfl) ?_
      refine va_get (D := (dC, dI)) (ci := 6) (v := .ref q_t_links) (C := RFG) (T := TFG) (N := 5) hx hb hws uwFG hown hK hP 0 rfl rfl 2 (by decide) (hws _ kf_FG_23) (fun _ h9 => h9) rfl dFG_findNeighbours_15 ?_
      refine lv_iload_n hx hb dFG_findNeighbours_18 rfl (lv_at hl 1 rfl) ?_
      refine lv_aload_n hx hb dFG_findNeighbours_19 rfl (lv_at hl 0 rfl) ?_
      refine va_get (D := (dC, dI)) (ci := 6) (v := .int (nI z_t_diagonals)) (C := RFG) (T := TFG) (N := 5) hx hb hws uwFG hown hK hP 0 rfl rfl 1 (by decide) (hws _ kf_FG_20) (fun _ h9 => h9) rfl dFG_findNeighbours_20 ?_
      refine lx_imul hx hb dFG_findNeighbours_23 ?_
      refine lv_iload hx hb dFG_findNeighbours_24 (lv_at hl 3 rfl) ?_
      refine lx_iadd hx hb dFG_findNeighbours_26 ?_
      refine lx_iald hx hb hK hP 1 0 rfl rfl (by decide) dFG_findNeighbours_27 hf (fun v1 _ hf => ?_)
      refine lv_istore hx hb dFG_findNeighbours_28 hl (by decide) rfl (fun ls hl => ?_)
      refine lv_aload_n hx hb dFG_findNeighbours_30 rfl (lv_at hl 1 rfl) ?_
      refine va_get (D := (dC, dI)) (ci := 6) (v := .ref q_t_steps) (C := RFG) (T := TFG) (N := 5) hx hb hws uwFG hown hK hP 0 rfl rfl 3 (by decide) (hws _ kf_FG_27) (fun _ h9 => h9) rfl dFG_findNeighbours_31 ?_
      refine lv_iload hx hb dFG_findNeighbours_34 (lv_at hl 0 rfl) ?_
      refine lx_iald hx hb hK hP 2 0 rfl rfl (by decide) dFG_findNeighbours_36 hf (fun v2 _ hf => ?_)
      refine lv_iconst (v := nI 4294967295) hx hb dFG_findNeighbours_37 (by decide +kernel) ?_
      refine lx_icmp_ne (tgt := 67) hx hb dFG_findNeighbours_38 (by decide) hf (fun hf => ?_) (fun hf => ?_)
      · exact hj_67 _ IH l1 l3 l4 y_t_steps y_t_queue _ _ _ hf (lv_sub hl [1, 2, 3, 4] rfl) hP hD hS
      · refine lv_aload_n hx hb dFG_findNeighbours_41 rfl (lv_at hl 1 rfl) ?_
        refine va_get (D := (dC, dI)) (ci := 6) (v := .ref q_t_steps) (C := RFG) (T := TFG) (N := 5) hx hb hws uwFG hown hK hP 0 rfl rfl 3 (by decide) (hws _ kf_FG_27) (fun _ h9 => h9) rfl dFG_findNeighbours_42 ?_
        refine lv_iload hx hb dFG_findNeighbours_45 (lv_at hl 0 rfl) ?_
        refine lv_aload_n hx hb dFG_findNeighbours_47 rfl (lv_at hl 1 rfl) ?_
        refine va_get (D := (dC, dI)) (ci := 6) (v := .ref q_t_steps) (C := RFG) (T := TFG) (N := 5) hx hb hws uwFG hown hK hP 0 rfl rfl 3 (by decide) (hws _ kf_FG_27) (fun _ h9 => h9) rfl dFG_findNeighbours_48 ?_
        refine lv_iload_n hx hb dFG_findNeighbours_51 rfl (lv_at hl 2 rfl) ?_
        refine lx_iald hx hb hK hP 2 0 rfl rfl (by decide) dFG_findNeighbours_52 hf (fun v3 _ hf => ?_)
        refine lv_iconst (v := nI 1) hx hb dFG_findNeighbours_53 (by decide +kernel) ?_
        refine lx_iadd hx hb dFG_findNeighbours_54 ?_
        refine lx_iast hx hb hK hP hD hS 2 0 rfl rfl (by decide) dFG_findNeighbours_55 hf (fun hf H locs hP hD hS => ?_)
        have hP : va_P (dC, dI) vwCl (w_FG3 K q_t q_t_links q_t_steps q_t_queue f_t_links f_t_steps f_t_queue z_t_words z_t_diagonals z_t_links (aw y_t_steps v1 (iA v3 1)) y_t_queue) H := hP
        have hD : va_D A (w_FG3 K q_t q_t_links q_t_steps q_t_queue f_t_links f_t_steps f_t_queue z_t_words z_t_diagonals z_t_links (aw y_t_steps v1 (iA v3 1)) y_t_queue) := hD
        refine lv_aload_n hx hb dFG_findNeighbours_56 rfl (lv_at hl 1 rfl) ?_
        refine va_get (D := (dC, dI)) (ci := 6) (v := .ref q_t_queue) (C := RFG) (T := TFG) (N := 5) hx hb hws uwFG hown hK hP 0 rfl rfl 4 (by decide) (hws _ kf_FG_30) (fun _ h9 => h9) rfl dFG_findNeighbours_57 ?_
        refine lv_iload_n hx hb dFG_findNeighbours_60 rfl (lv_at hl 3 rfl) ?_
        refine lv_iload hx hb dFG_findNeighbours_61 (lv_at hl 0 rfl) ?_
        refine lx_iast hx hb hK hP hD hS 3 0 rfl rfl (by decide) dFG_findNeighbours_63 hf (fun hf H locs hP hD hS => ?_)
        have hP : va_P (dC, dI) vwCl (w_FG3 K q_t q_t_links q_t_steps q_t_queue f_t_links f_t_steps f_t_queue z_t_words z_t_diagonals z_t_links (aw y_t_steps v1 (iA v3 1)) (aw y_t_queue l3 v1)) H := hP
        have hD : va_D A (w_FG3 K q_t q_t_links q_t_steps q_t_queue f_t_links f_t_steps f_t_queue z_t_words z_t_diagonals z_t_links (aw y_t_steps v1 (iA v3 1)) (aw y_t_queue l3 v1)) := hD
        refine lx_iinc (k := 3) (d := 1) hx hb dFG_findNeighbours_64 hl rfl (by decide +kernel) (by decide) rfl (fun ls hl => ?_)
        have hf := fz_s hf
        have hf := fz_s hf
        have hf := fz_s hf
        exact hj_67 _ IH l1 (iA l3 1) l4 (aw y_t_steps v1 (iA v3 1)) (aw y_t_queue l3 v1) _ _ _ hf (lv_sub hl [2, 3, 0, 4] rfl) hP hD hS
  have key : ∀ k : Nat, (∀ (l1 l3 l4 y_t_steps y_t_queue : Nat) (H : Heap) (locs : List Loc) (ls : Array Slot), fr_FG3_findNeighbours x0 x1 z_t_diagonals z_t_links z_t_steps z_t_queue k l1 l3 l4 y_t_steps y_t_queue = some r → lv_has ls 6 [(0, .ref q_t), (1, .int (nI l1)), (3, .int (nI l3)), (4, .int (nI l4))] → va_P (dC, dI) vwCl (w_FG3 K q_t q_t_links q_t_steps q_t_queue f_t_links f_t_steps f_t_queue z_t_words z_t_diagonals z_t_links y_t_steps y_t_queue) H → va_D A (w_FG3 K q_t q_t_links q_t_steps q_t_queue f_t_links f_t_steps f_t_queue z_t_words z_t_diagonals z_t_links y_t_steps y_t_queue) → va_S A s.heap H locs → W p l e (headSpec wc_FG_findNeighbours rm_FG3_findNeighbours).room s m args below meth c H locs 0 0 Q (F0 m 5 ls [])) := by
    intro k
    induction k with
    | zero => exact fun l1 l3 l4 y_t_steps y_t_queue H locs ls hf _ _ _ _ => no_s (α := Nat × Nat × Nat) (r := r) hf
    | succ k IH => exact fun l1 l3 l4 y_t_steps y_t_queue H locs ls hf => hb_5 (fr_FG3_findNeighbours x0 x1 z_t_diagonals z_t_links z_t_steps z_t_queue k) IH l1 l3 l4 y_t_steps y_t_queue H locs ls ((frs_FG3_findNeighbours_5 x0 x1 z_t_diagonals z_t_links z_t_steps z_t_queue k l1 l3 l4 y_t_steps y_t_queue).symm.trans hf)
  have IH := key 1000000
  have hf : e_FG3_findNeighbours (fr_FG3_findNeighbours x0 x1 z_t_diagonals z_t_links z_t_steps z_t_queue 1000000) x0 x1 z_t_diagonals z_t_links z_t_steps z_t_queue = some r := hf
  unfold e_FG3_findNeighbours at hf
  generalize fr_FG3_findNeighbours x0 x1 z_t_diagonals z_t_links z_t_steps z_t_queue 1000000 = ih at hf IH
  refine lv_iload_n hx hb dFG_findNeighbours_0 rfl (lv_at hl 2 rfl) ?_
  refine lv_istore_n hx hb dFG_findNeighbours_1 rfl hl (by decide) rfl (fun ls hl => ?_)
  refine lv_iconst (v := nI 0) hx hb dFG_findNeighbours_2 (by decide +kernel) ?_
  refine lv_istore hx hb dFG_findNeighbours_3 hl (by decide) rfl (fun ls hl => ?_)
  exact IH x0 x1 0 z_t_steps z_t_queue _ _ _ hf (lv_sub hl [2, 3, 1, 0] rfl) hP hD hS
noncomputable def j_FG3_distance_71 (ih : Nat → Nat → Nat → Nat → Nat → Option (Nat × Nat × Nat)) (x0 : Nat) (x1 : Nat) (z_t_words : Nat) (z_t_diagonals : Nat) (z_t_links : Nat) (z_t_steps : Nat) (z_t_queue : Nat) (l2 : Nat) (y_t_steps : Nat) (y_t_queue : Nat) : Option (Nat × Nat × Nat) := (rd y_t_steps 5 l2 (fun v11 => some (v11, y_t_steps, y_t_queue)))
noncomputable def b_FG3_distance_27 (ih : Nat → Nat → Nat → Nat → Nat → Option (Nat × Nat × Nat)) (x0 : Nat) (x1 : Nat) (z_t_words : Nat) (z_t_diagonals : Nat) (z_t_links : Nat) (z_t_steps : Nat) (z_t_queue : Nat) (l2 : Nat) (l3 : Nat) (l4 : Nat) (y_t_steps : Nat) (y_t_queue : Nat) : Option (Nat × Nat × Nat) := (bif iLt l4 z_t_words then (bif iLt l4 l3 then (rd y_t_steps 5 l2 (fun v4 => (bif iEq v4 4294967295 then (rd y_t_queue 5 l4 (fun v5 => (Option.bind (f_FG3_findNeighbours v5 l3 z_t_diagonals z_t_links y_t_steps y_t_queue) (fun q6 => (fz q6.1 (fun u7 => fz (iA l4 1) (fun u8 => fz q6.2.1 (fun u9 => fz q6.2.2 (fun u10 => ih l2 u7 u8 u9 u10))))))))) else (j_FG3_distance_71 ih x0 x1 z_t_words z_t_diagonals z_t_links z_t_steps z_t_queue l2 y_t_steps y_t_queue)))) else (j_FG3_distance_71 ih x0 x1 z_t_words z_t_diagonals z_t_links z_t_steps z_t_queue l2 y_t_steps y_t_queue)) else (j_FG3_distance_71 ih x0 x1 z_t_words z_t_diagonals z_t_links z_t_steps z_t_queue l2 y_t_steps y_t_queue))
noncomputable def fr_FG3_distance (x0 : Nat) (x1 : Nat) (z_t_words : Nat) (z_t_diagonals : Nat) (z_t_links : Nat) (z_t_steps : Nat) (z_t_queue : Nat) (k : Nat) : Nat → Nat → Nat → Nat → Nat → Option (Nat × Nat × Nat) := Nat.rec (motive := fun _ => Nat → Nat → Nat → Nat → Nat → Option (Nat × Nat × Nat)) (fun _ _ _ _ _ => none) (fun _ ih a0 a1 a2 a3 a4 => b_FG3_distance_27 ih x0 x1 z_t_words z_t_diagonals z_t_links z_t_steps z_t_queue a0 a1 a2 a3 a4) k
theorem frs_FG3_distance_27 (x0 : Nat) (x1 : Nat) (z_t_words : Nat) (z_t_diagonals : Nat) (z_t_links : Nat) (z_t_steps : Nat) (z_t_queue : Nat) (k : Nat) (l2 : Nat) (l3 : Nat) (l4 : Nat) (y_t_steps : Nat) (y_t_queue : Nat) : fr_FG3_distance x0 x1 z_t_words z_t_diagonals z_t_links z_t_steps z_t_queue (k + 1) l2 l3 l4 y_t_steps y_t_queue = b_FG3_distance_27 (fr_FG3_distance x0 x1 z_t_words z_t_diagonals z_t_links z_t_steps z_t_queue k) x0 x1 z_t_words z_t_diagonals z_t_links z_t_steps z_t_queue l2 l3 l4 y_t_steps y_t_queue := rfl
noncomputable def e_FG3_distance (ih : Nat → Nat → Nat → Nat → Nat → Option (Nat × Nat × Nat)) (x0 : Nat) (x1 : Nat) (z_t_words : Nat) (z_t_diagonals : Nat) (z_t_links : Nat) (z_t_steps : Nat) (z_t_queue : Nat) : Option (Nat × Nat × Nat) := (Option.bind (f_AR_fill5 4294967295 z_t_steps) (fun q1 => (bif Nat.blt x0 5 then (bif Nat.blt 0 5 then (fz (aw q1 x0 0) (fun u2 => fz (aw z_t_queue 0 x0) (fun u3 => ih x1 1 0 u2 u3))) else none) else none)))
noncomputable def f_FG3_distance (x0 : Nat) (x1 : Nat) (z_t_words : Nat) (z_t_diagonals : Nat) (z_t_links : Nat) (z_t_steps : Nat) (z_t_queue : Nat) : Option (Nat × Nat × Nat) := e_FG3_distance (fr_FG3_distance x0 x1 z_t_words z_t_diagonals z_t_links z_t_steps z_t_queue 1000000) x0 x1 z_t_words z_t_diagonals z_t_links z_t_steps z_t_queue
abbrev rm_FG3_distance : Room := { frames := 1, cells := 0, slots := 0, locals := 25 }
set_option maxHeartbeats 4000000 in
set_option maxRecDepth 100000 in
theorem ct_FG3_distance (l : Launch) (dC : Nat → ClassId) (dI : Nat → Nat → Nat) (K : Nat → ClassId) (q_t : Nat) (q_t_links : Nat) (q_t_steps : Nat) (q_t_queue : Nat) (f_t_links : Nat → Int32) (f_t_steps : Nat → Int32) (f_t_queue : Nat → Int32) (x0 : Nat) (x1 : Nat) (z_t_words : Nat) (z_t_diagonals : Nat) (z_t_links : Nat) (z_t_steps : Nat) (z_t_queue : Nat) (r : Nat × Nat × Nat) (hf : f_FG3_distance x0 x1 z_t_words z_t_diagonals z_t_links z_t_steps z_t_queue = some r) : Ct l (dC, dI) vwCl yFG_distance wc_FG_distance rm_FG3_distance (tyK K) [.ref q_t, .int (nI x0), .int (nI x1)] (w_FG3 K q_t q_t_links q_t_steps q_t_queue f_t_links f_t_steps f_t_queue z_t_words z_t_diagonals z_t_links z_t_steps z_t_queue) (w_FG3 K q_t q_t_links q_t_steps q_t_queue f_t_links f_t_steps f_t_queue z_t_words z_t_diagonals z_t_links r.2.1 r.2.2) (some (.int (nI r.1))) := by
  intro sz
  refine Met.ofW (cc := cFG_distance) (maxL := 5) (ret := (some .int)) (by decide) rfl ?_
  intro p e s m args below meth c s₁ B hml hv
  obtain ⟨rfl, hsz, hP, hK, hD0⟩ := hv
  have hx := B.exec
  have hb := B.bytes
  have hr := B.returns
  have hts := atoms_spec (ws := wc_FG_distance) B.pre
  have hws : ∀ w ∈ WS, w.before _ s = true := fun w h => hts w (List.mem_cons_of_mem _ h)
  have hown : s.vm.findClass RFG = some m.cls := findClass_of_methodNamed B.named
  have hlocks := B.notSynchronized
  subst hsz
  have hD := hD0.self (sz := s.heap.size)
  generalize hAe : va_A (w_FG3 K q_t q_t_links q_t_steps q_t_queue f_t_links f_t_steps f_t_queue z_t_words z_t_diagonals z_t_links z_t_steps z_t_queue) s.heap.size = A at hD ⊢
  have hA : ∀ q : Nat, s.heap.size ≤ q → A q := fun q h => by rw [← hAe]; exact Or.inr h
  have hS : va_S A s.heap s.heap [] := va_S.rf
  have hl := lv_entry ([.ref q_t, .int (nI x0), .int (nI x1)]) (n := 5) (Nat.le_of_ble_eq_true rfl)
  rw [lg_entry_eq]
  generalize (lg_sl ([.ref q_t, .int (nI x0), .int (nI x1)]) ++ List.replicate (5 - (lg_sl ([.ref q_t, .int (nI x0), .int (nI x1)])).length) Slot.unset).toArray = ls at hl ⊢
  have hl : lv_has ls 5 [(0, .ref q_t), (1, .int (nI x0)), (2, .int (nI x1))] := hl
  generalize ([.ref q_t, .int (nI x0), .int (nI x1)] : List Value).toArray = args at hts hws ⊢
  generalize hQ : MQ below _ _ _ _ _ _ = Q
  have hj_71 : ∀ (ih : Nat → Nat → Nat → Nat → Nat → Option (Nat × Nat × Nat)) (IH : (∀ (l2 l3 l4 y_t_steps y_t_queue : Nat) (H : Heap) (locs : List Loc) (ls : Array Slot), ih l2 l3 l4 y_t_steps y_t_queue = some r → lv_has ls 5 [(0, .ref q_t), (2, .int (nI l2)), (3, .int (nI l3)), (4, .int (nI l4))] → va_P (dC, dI) vwCl (w_FG3 K q_t q_t_links q_t_steps q_t_queue f_t_links f_t_steps f_t_queue z_t_words z_t_diagonals z_t_links y_t_steps y_t_queue) H → va_D A (w_FG3 K q_t q_t_links q_t_steps q_t_queue f_t_links f_t_steps f_t_queue z_t_words z_t_diagonals z_t_links y_t_steps y_t_queue) → va_S A s.heap H locs → W p l e (headSpec wc_FG_distance rm_FG3_distance).room s m args below meth c H locs 0 0 Q (F0 m 27 ls []))), ∀ (l2 y_t_steps y_t_queue : Nat) (H : Heap) (locs : List Loc) (ls : Array Slot), j_FG3_distance_71 ih x0 x1 z_t_words z_t_diagonals z_t_links z_t_steps z_t_queue l2 y_t_steps y_t_queue = some r → lv_has ls 5 [(0, .ref q_t), (2, .int (nI l2))] → va_P (dC, dI) vwCl (w_FG3 K q_t q_t_links q_t_steps q_t_queue f_t_links f_t_steps f_t_queue z_t_words z_t_diagonals z_t_links y_t_steps y_t_queue) H → va_D A (w_FG3 K q_t q_t_links q_t_steps q_t_queue f_t_links f_t_steps f_t_queue z_t_words z_t_diagonals z_t_links y_t_steps y_t_queue) → va_S A s.heap H locs → W p l e (headSpec wc_FG_distance rm_FG3_distance).room s m args below meth c H locs 0 0 Q (F0 m 71 ls []) := by
    intro ih IH l2 y_t_steps y_t_queue H locs ls hf hl hP hD hS
    unfold j_FG3_distance_71 at hf
    refine lv_aload_n hx hb dFG_distance_71 rfl (lv_at hl 0 rfl) ?_
    refine va_get (D := (dC, dI)) (ci := 6) (v := .ref q_t_steps) (C := RFG) (T := TFG) (N := 5) hx hb hws uwFG hown hK hP 0 rfl rfl 3 (by decide) (hws _ kf_FG_27) (fun _ h9 => h9) rfl dFG_distance_72 ?_
    refine lv_iload_n hx hb dFG_distance_75 rfl (lv_at hl 1 rfl) ?_
    refine lx_iald hx hb hK hP 2 0 rfl rfl (by decide) dFG_distance_76 hf (fun v11 _ hf => ?_)
    obtain rfl := Option.some.inj hf
    rw [← hQ]
    exact W.iret (v := nI v11) hx hb hr (fun t ht hW => ⟨⟨rfl, by rw [ht]; exact hP⟩, hS.F ht⟩) hS.2.2 dFG_distance_77
  have hb_27 : ∀ (ih : Nat → Nat → Nat → Nat → Nat → Option (Nat × Nat × Nat)) (IH : (∀ (l2 l3 l4 y_t_steps y_t_queue : Nat) (H : Heap) (locs : List Loc) (ls : Array Slot), ih l2 l3 l4 y_t_steps y_t_queue = some r → lv_has ls 5 [(0, .ref q_t), (2, .int (nI l2)), (3, .int (nI l3)), (4, .int (nI l4))] → va_P (dC, dI) vwCl (w_FG3 K q_t q_t_links q_t_steps q_t_queue f_t_links f_t_steps f_t_queue z_t_words z_t_diagonals z_t_links y_t_steps y_t_queue) H → va_D A (w_FG3 K q_t q_t_links q_t_steps q_t_queue f_t_links f_t_steps f_t_queue z_t_words z_t_diagonals z_t_links y_t_steps y_t_queue) → va_S A s.heap H locs → W p l e (headSpec wc_FG_distance rm_FG3_distance).room s m args below meth c H locs 0 0 Q (F0 m 27 ls []))), ∀ (l2 l3 l4 y_t_steps y_t_queue : Nat) (H : Heap) (locs : List Loc) (ls : Array Slot), b_FG3_distance_27 ih x0 x1 z_t_words z_t_diagonals z_t_links z_t_steps z_t_queue l2 l3 l4 y_t_steps y_t_queue = some r → lv_has ls 5 [(0, .ref q_t), (2, .int (nI l2)), (3, .int (nI l3)), (4, .int (nI l4))] → va_P (dC, dI) vwCl (w_FG3 K q_t q_t_links q_t_steps q_t_queue f_t_links f_t_steps f_t_queue z_t_words z_t_diagonals z_t_links y_t_steps y_t_queue) H → va_D A (w_FG3 K q_t q_t_links q_t_steps q_t_queue f_t_links f_t_steps f_t_queue z_t_words z_t_diagonals z_t_links y_t_steps y_t_queue) → va_S A s.heap H locs → W p l e (headSpec wc_FG_distance rm_FG3_distance).room s m args below meth c H locs 0 0 Q (F0 m 27 ls []) := by
    intro ih IH l2 l3 l4 y_t_steps y_t_queue H locs ls hf hl hP hD hS
    unfold b_FG3_distance_27 at hf
    refine lv_iload hx hb dFG_distance_27 (lv_at hl 3 rfl) ?_
    refine lv_aload_n hx hb dFG_distance_29 rfl (lv_at hl 0 rfl) ?_
    refine va_get (D := (dC, dI)) (ci := 6) (v := .int (nI z_t_words)) (C := RFG) (T := TFG) (N := 5) hx hb hws uwFG hown hK hP 0 rfl rfl 0 (by decide) (hws _ kf_FG_15) (fun _ h9 => h9) rfl dFG_distance_30 ?_
    refine lx_icmp_ge (tgt := 71) hx hb dFG_distance_33 (by decide) hf (fun hf => ?_) (fun hf => ?_)
    · exact hj_71 _ IH l2 y_t_steps y_t_queue _ _ _ hf (lv_sub hl [0, 1] rfl) hP hD hS
    · refine lv_iload hx hb dFG_distance_36 (lv_at hl 3 rfl) ?_
      refine lv_iload_n hx hb dFG_distance_38 rfl (lv_at hl 2 rfl) ?_
      refine lx_icmp_ge (tgt := 71) hx hb dFG_distance_39 (by decide) hf (fun hf => ?_) (fun hf => ?_)
      · exact hj_71 _ IH l2 y_t_steps y_t_queue _ _ _ hf (lv_sub hl [0, 1] rfl) hP hD hS
      · refine lv_aload_n hx hb dFG_distance_42 rfl (lv_at hl 0 rfl) ?_
        refine va_get (D := (dC, dI)) (ci := 6) (v := .ref q_t_steps) (C := RFG) (T := TFG) (N := 5) hx hb hws uwFG hown hK hP 0 rfl rfl 3 (by decide) (hws _ kf_FG_27) (fun _ h9 => h9) rfl dFG_distance_43 ?_
        refine lv_iload_n hx hb dFG_distance_46 rfl (lv_at hl 1 rfl) ?_
        refine lx_iald hx hb hK hP 2 0 rfl rfl (by decide) dFG_distance_47 hf (fun v4 _ hf => ?_)
        refine lv_iconst (v := nI 4294967295) hx hb dFG_distance_48 (by decide +kernel) ?_
        refine lx_icmp_ne (tgt := 71) hx hb dFG_distance_49 (by decide) hf (fun hf => ?_) (fun hf => ?_)
        · exact hj_71 _ IH l2 y_t_steps y_t_queue _ _ _ hf (lv_sub hl [0, 1] rfl) hP hD hS
        · refine lv_aload_n hx hb dFG_distance_52 rfl (lv_at hl 0 rfl) ?_
          refine lv_aload_n hx hb dFG_distance_53 rfl (lv_at hl 0 rfl) ?_
          refine va_get (D := (dC, dI)) (ci := 6) (v := .ref q_t_queue) (C := RFG) (T := TFG) (N := 5) hx hb hws uwFG hown hK hP 0 rfl rfl 4 (by decide) (hws _ kf_FG_30) (fun _ h9 => h9) rfl dFG_distance_54 ?_
          refine lv_iload hx hb dFG_distance_57 (lv_at hl 3 rfl) ?_
          refine lx_iald hx hb hK hP 3 0 rfl rfl (by decide) dFG_distance_59 hf (fun v5 _ hf => ?_)
          refine lv_iload_n hx hb dFG_distance_60 rfl (lv_at hl 2 rfl) ?_
          obtain ⟨q6, hq, hf⟩ := bd_s hf
          refine ct_callr (ws' := w_FG3 K q_t q_t_links q_t_steps q_t_queue f_t_links f_t_steps f_t_queue z_t_words z_t_diagonals z_t_links q6.2.1 q6.2.2) (va_runV (As := [.int (nI v5), .int (nI l3)]) (rest := []) ⟨hx, hb, hml, hown, hws⟩ (ct_FG3_findNeighbours l dC dI K q_t q_t_links q_t_steps q_t_queue f_t_links f_t_steps f_t_queue v5 l3 z_t_words z_t_diagonals z_t_links y_t_steps y_t_queue q6 hq _) ⟨cb_FG_findNeighbours hws rm_FG3_findNeighbours (hws _ km_FG_70) ⟨Nat.le_of_ble_eq_true rfl, Nat.le_of_ble_eq_true rfl⟩, hws _ ki_FG_findNeighbours, hws _ ke_FG_FG_findNeighbours_FG_findNeighbours⟩ ⟨ct_blind _ _ _, va_recv (ci := 6) (q0 := 0) (q := (RFG, TFG, 5)) hK hP rfl rfl, ct_pre (cs := (w_FG3 K q_t q_t_links q_t_steps q_t_queue f_t_links f_t_steps f_t_queue z_t_words z_t_diagonals z_t_links y_t_steps y_t_queue)) hP hD hK [0, 1, 2, 3] (by decide) rfl _⟩ rfl rfl hl.1 rfl (lv_room (Nat.le_of_ble_eq_true rfl)) dFG_distance_61 ⟨Nat.le_of_ble_eq_true rfl, Nat.le_of_ble_eq_true rfl⟩) hP hD hS hA [0, 1, 2, 3] rfl rfl rfl rfl (fun H locs hP hD hS => ?_)
          have hP : va_P (dC, dI) vwCl (w_FG3 K q_t q_t_links q_t_steps q_t_queue f_t_links f_t_steps f_t_queue z_t_words z_t_diagonals z_t_links q6.2.1 q6.2.2) H := hP
          have hD : va_D A (w_FG3 K q_t q_t_links q_t_steps q_t_queue f_t_links f_t_steps f_t_queue z_t_words z_t_diagonals z_t_links q6.2.1 q6.2.2) := hD
          refine lv_istore_n hx hb dFG_distance_64 rfl hl (by decide) rfl (fun ls hl => ?_)
          refine lx_iinc (k := 3) (d := 1) hx hb dFG_distance_65 hl rfl (by decide +kernel) (by decide) rfl (fun ls hl => ?_)
          refine lv_goto (tgt := 27) hx hb dFG_distance_68 (by decide) ?_
          have hf := fz_s hf
          have hf := fz_s hf
          have hf := fz_s hf
          have hf := fz_s hf
          exact IH l2 q6.1 (iA l4 1) q6.2.1 q6.2.2 _ _ _ hf (lv_sub hl [2, 3, 1, 0] rfl) hP hD hS
  have key : ∀ k : Nat, (∀ (l2 l3 l4 y_t_steps y_t_queue : Nat) (H : Heap) (locs : List Loc) (ls : Array Slot), fr_FG3_distance x0 x1 z_t_words z_t_diagonals z_t_links z_t_steps z_t_queue k l2 l3 l4 y_t_steps y_t_queue = some r → lv_has ls 5 [(0, .ref q_t), (2, .int (nI l2)), (3, .int (nI l3)), (4, .int (nI l4))] → va_P (dC, dI) vwCl (w_FG3 K q_t q_t_links q_t_steps q_t_queue f_t_links f_t_steps f_t_queue z_t_words z_t_diagonals z_t_links y_t_steps y_t_queue) H → va_D A (w_FG3 K q_t q_t_links q_t_steps q_t_queue f_t_links f_t_steps f_t_queue z_t_words z_t_diagonals z_t_links y_t_steps y_t_queue) → va_S A s.heap H locs → W p l e (headSpec wc_FG_distance rm_FG3_distance).room s m args below meth c H locs 0 0 Q (F0 m 27 ls [])) := by
    intro k
    induction k with
    | zero => exact fun l2 l3 l4 y_t_steps y_t_queue H locs ls hf _ _ _ _ => no_s (α := Nat × Nat × Nat) (r := r) hf
    | succ k IH => exact fun l2 l3 l4 y_t_steps y_t_queue H locs ls hf => hb_27 (fr_FG3_distance x0 x1 z_t_words z_t_diagonals z_t_links z_t_steps z_t_queue k) IH l2 l3 l4 y_t_steps y_t_queue H locs ls ((frs_FG3_distance_27 x0 x1 z_t_words z_t_diagonals z_t_links z_t_steps z_t_queue k l2 l3 l4 y_t_steps y_t_queue).symm.trans hf)
  have IH := key 1000000
  have hf : e_FG3_distance (fr_FG3_distance x0 x1 z_t_words z_t_diagonals z_t_links z_t_steps z_t_queue 1000000) x0 x1 z_t_words z_t_diagonals z_t_links z_t_steps z_t_queue = some r := hf
  unfold e_FG3_distance at hf
  generalize fr_FG3_distance x0 x1 z_t_words z_t_diagonals z_t_links z_t_steps z_t_queue 1000000 = ih at hf IH
  refine lv_aload_n hx hb dFG_distance_0 rfl (lv_at hl 0 rfl) ?_
  refine va_get (D := (dC, dI)) (ci := 6) (v := .ref q_t_steps) (C := RFG) (T := TFG) (N := 5) hx hb hws uwFG hown hK hP 0 rfl rfl 3 (by decide) (hws _ kf_FG_27) (fun _ h9 => h9) rfl dFG_distance_1 ?_
  refine lv_iconst (v := nI 4294967295) hx hb dFG_distance_4 (by decide +kernel) ?_
  obtain ⟨q1, hq, hf⟩ := bd_s hf
  refine ct_callv (ws' := w_FG3 K q_t q_t_links q_t_steps q_t_queue f_t_links f_t_steps f_t_queue z_t_words z_t_diagonals z_t_links q1 z_t_queue) (va_runS (As := [.ref q_t_steps, .int (nI 4294967295)]) (rest := []) ⟨hx, hb, hml, hown, hws⟩ (ct_AR_fill5 l dC dI K q_t_steps f_t_steps 4294967295 z_t_steps q1 hq _) ⟨cb_AR_fill hws rm_AR_fill5 (hws _ km_FG_64) ⟨Nat.le_of_ble_eq_true rfl, Nat.le_of_ble_eq_true rfl⟩, hws _ ks_AR_fill⟩ ⟨ct_blind _ _ _, ct_pre (cs := (wArr K 5 q_t_steps f_t_steps z_t_steps)) hP hD hK [2] (by decide) rfl _⟩ rfl rfl hl.1 rfl (lv_room (Nat.le_of_ble_eq_true rfl)) dFG_distance_5 ⟨Nat.le_of_ble_eq_true rfl, Nat.le_of_ble_eq_true rfl⟩) hP hD hS hA [2] rfl rfl rfl rfl (fun H locs hP hD hS => ?_)
  have hP : va_P (dC, dI) vwCl (w_FG3 K q_t q_t_links q_t_steps q_t_queue f_t_links f_t_steps f_t_queue z_t_words z_t_diagonals z_t_links q1 z_t_queue) H := hP
  have hD : va_D A (w_FG3 K q_t q_t_links q_t_steps q_t_queue f_t_links f_t_steps f_t_queue z_t_words z_t_diagonals z_t_links q1 z_t_queue) := hD
  refine lv_aload_n hx hb dFG_distance_8 rfl (lv_at hl 0 rfl) ?_
  refine va_get (D := (dC, dI)) (ci := 6) (v := .ref q_t_steps) (C := RFG) (T := TFG) (N := 5) hx hb hws uwFG hown hK hP 0 rfl rfl 3 (by decide) (hws _ kf_FG_27) (fun _ h9 => h9) rfl dFG_distance_9 ?_
  refine lv_iload_n hx hb dFG_distance_12 rfl (lv_at hl 1 rfl) ?_
  refine lv_iconst (v := nI 0) hx hb dFG_distance_13 (by decide +kernel) ?_
  refine lx_iast hx hb hK hP hD hS 2 0 rfl rfl (by decide) dFG_distance_14 hf (fun hf H locs hP hD hS => ?_)
  have hP : va_P (dC, dI) vwCl (w_FG3 K q_t q_t_links q_t_steps q_t_queue f_t_links f_t_steps f_t_queue z_t_words z_t_diagonals z_t_links (aw q1 x0 0) z_t_queue) H := hP
  have hD : va_D A (w_FG3 K q_t q_t_links q_t_steps q_t_queue f_t_links f_t_steps f_t_queue z_t_words z_t_diagonals z_t_links (aw q1 x0 0) z_t_queue) := hD
  refine lv_aload_n hx hb dFG_distance_15 rfl (lv_at hl 0 rfl) ?_
  refine va_get (D := (dC, dI)) (ci := 6) (v := .ref q_t_queue) (C := RFG) (T := TFG) (N := 5) hx hb hws uwFG hown hK hP 0 rfl rfl 4 (by decide) (hws _ kf_FG_30) (fun _ h9 => h9) rfl dFG_distance_16 ?_
  refine lv_iconst (v := nI 0) hx hb dFG_distance_19 (by decide +kernel) ?_
  refine lv_iload_n hx hb dFG_distance_20 rfl (lv_at hl 1 rfl) ?_
  refine lx_iast hx hb hK hP hD hS 3 0 rfl rfl (by decide) dFG_distance_21 hf (fun hf H locs hP hD hS => ?_)
  have hP : va_P (dC, dI) vwCl (w_FG3 K q_t q_t_links q_t_steps q_t_queue f_t_links f_t_steps f_t_queue z_t_words z_t_diagonals z_t_links (aw q1 x0 0) (aw z_t_queue 0 x0)) H := hP
  have hD : va_D A (w_FG3 K q_t q_t_links q_t_steps q_t_queue f_t_links f_t_steps f_t_queue z_t_words z_t_diagonals z_t_links (aw q1 x0 0) (aw z_t_queue 0 x0)) := hD
  refine lv_iconst (v := nI 1) hx hb dFG_distance_22 (by decide +kernel) ?_
  refine lv_istore_n hx hb dFG_distance_23 rfl hl (by decide) rfl (fun ls hl => ?_)
  refine lv_iconst (v := nI 0) hx hb dFG_distance_24 (by decide +kernel) ?_
  refine lv_istore hx hb dFG_distance_25 hl (by decide) rfl (fun ls hl => ?_)
  have hf := fz_s hf
  have hf := fz_s hf
  exact IH x1 1 0 (aw q1 x0 0) (aw z_t_queue 0 x0) _ _ _ hf (lv_sub hl [2, 4, 1, 0] rfl) hP hD hS
noncomputable abbrev w_FG4 (K : Nat → ClassId) (q_t : Nat) (q_t_links : Nat) (q_t_steps : Nat) (q_t_queue : Nat) (f_t_links : Nat → Int32) (f_t_steps : Nat → Int32) (f_t_queue : Nat → Int32) (z_t_words : Nat) (z_t_diagonals : Nat) (z_t_links : Nat) (z_t_steps : Nat) (z_t_queue : Nat) : va_W := [(q_t, .inr (6, [.int (nI z_t_words), .int (nI z_t_diagonals), .ref q_t_links, .ref q_t_steps, .ref q_t_queue])), (q_t_links, .inl (K 0, 42, .inl (ar f_t_links z_t_links))), (q_t_steps, .inl (K 0, 14, .inl (ar f_t_steps z_t_steps))), (q_t_queue, .inl (K 0, 14, .inl (ar f_t_queue z_t_queue)))]
noncomputable def b_AR_fill14_5 (ih : Nat → Nat → Nat → Nat → Option (Nat)) (x1 : Nat) (z_p0 : Nat) (l1 : Nat) (l2 : Nat) (l3 : Nat) (y_p0 : Nat) : Option (Nat) := (bif iLt l2 l3 then (bif Nat.blt l2 14 then (fz (iA l2 1) (fun u1 => fz (aw y_p0 l2 l1) (fun u2 => ih l1 u1 l3 u2))) else none) else some y_p0)
noncomputable def fr_AR_fill14 (x1 : Nat) (z_p0 : Nat) (k : Nat) : Nat → Nat → Nat → Nat → Option (Nat) := Nat.rec (motive := fun _ => Nat → Nat → Nat → Nat → Option (Nat)) (fun _ _ _ _ => none) (fun _ ih a0 a1 a2 a3 => b_AR_fill14_5 ih x1 z_p0 a0 a1 a2 a3) k
theorem frs_AR_fill14_5 (x1 : Nat) (z_p0 : Nat) (k : Nat) (l1 : Nat) (l2 : Nat) (l3 : Nat) (y_p0 : Nat) : fr_AR_fill14 x1 z_p0 (k + 1) l1 l2 l3 y_p0 = b_AR_fill14_5 (fr_AR_fill14 x1 z_p0 k) x1 z_p0 l1 l2 l3 y_p0 := rfl
noncomputable def e_AR_fill14 (ih : Nat → Nat → Nat → Nat → Option (Nat)) (x1 : Nat) (z_p0 : Nat) : Option (Nat) := (ih x1 0 14 z_p0)
noncomputable def f_AR_fill14 (x1 : Nat) (z_p0 : Nat) : Option (Nat) := e_AR_fill14 (fr_AR_fill14 x1 z_p0 1000000) x1 z_p0
abbrev rm_AR_fill14 : Room := { frames := 0, cells := 0, slots := 0, locals := 0 }
set_option maxHeartbeats 4000000 in
set_option maxRecDepth 100000 in
theorem ct_AR_fill14 (l : Launch) (dC : Nat → ClassId) (dI : Nat → Nat → Nat) (K : Nat → ClassId) (q_p0 : Nat) (f_p0 : Nat → Int32) (x1 : Nat) (z_p0 : Nat) (r : Nat) (hf : f_AR_fill14 x1 z_p0 = some r) : Ct l (dC, dI) vwCl yAR_fill wc_AR_fill rm_AR_fill14 (tyK K) [.ref q_p0, .int (nI x1)] (wArr K 14 q_p0 f_p0 z_p0) (wArr K 14 q_p0 f_p0 r) none := by
  intro sz
  refine Met.ofW (cc := cAR_fill) (maxL := 4) (ret := none) (by decide) rfl ?_
  intro p e s m args below meth c s₁ B hml hv
  obtain ⟨rfl, hsz, hP, hK, hD0⟩ := hv
  have hx := B.exec
  have hb := B.bytes
  have hr := B.returns
  have hts := atoms_spec (ws := wc_AR_fill) B.pre
  have hws : ∀ w ∈ WS, w.before _ s = true := fun w h => hts w (List.mem_cons_of_mem _ h)
  have hown : s.vm.findClass RAR = some m.cls := findClass_of_methodNamed B.named
  have hlocks := B.notSynchronized
  subst hsz
  have hD := hD0.self (sz := s.heap.size)
  generalize hAe : va_A (wArr K 14 q_p0 f_p0 z_p0) s.heap.size = A at hD ⊢
  have hA : ∀ q : Nat, s.heap.size ≤ q → A q := fun q h => by rw [← hAe]; exact Or.inr h
  have hS : va_S A s.heap s.heap [] := va_S.rf
  have hl := lv_entry ([.ref q_p0, .int (nI x1)]) (n := 4) (Nat.le_of_ble_eq_true rfl)
  rw [lg_entry_eq]
  generalize (lg_sl ([.ref q_p0, .int (nI x1)]) ++ List.replicate (4 - (lg_sl ([.ref q_p0, .int (nI x1)])).length) Slot.unset).toArray = ls at hl ⊢
  have hl : lv_has ls 4 [(0, .ref q_p0), (1, .int (nI x1))] := hl
  generalize ([.ref q_p0, .int (nI x1)] : List Value).toArray = args at hts hws ⊢
  generalize hQ : MQ below _ _ _ _ _ _ = Q
  have hb_5 : ∀ (ih : Nat → Nat → Nat → Nat → Option (Nat)) (IH : (∀ (l1 l2 l3 y_p0 : Nat) (H : Heap) (locs : List Loc) (ls : Array Slot), ih l1 l2 l3 y_p0 = some r → lv_has ls 4 [(0, .ref q_p0), (1, .int (nI l1)), (2, .int (nI l2)), (3, .int (nI l3))] → va_P (dC, dI) vwCl (wArr K 14 q_p0 f_p0 y_p0) H → va_D A (wArr K 14 q_p0 f_p0 y_p0) → va_S A s.heap H locs → W p l e (headSpec wc_AR_fill rm_AR_fill14).room s m args below meth c H locs 0 0 Q (F0 m 5 ls []))), ∀ (l1 l2 l3 y_p0 : Nat) (H : Heap) (locs : List Loc) (ls : Array Slot), b_AR_fill14_5 ih x1 z_p0 l1 l2 l3 y_p0 = some r → lv_has ls 4 [(0, .ref q_p0), (1, .int (nI l1)), (2, .int (nI l2)), (3, .int (nI l3))] → va_P (dC, dI) vwCl (wArr K 14 q_p0 f_p0 y_p0) H → va_D A (wArr K 14 q_p0 f_p0 y_p0) → va_S A s.heap H locs → W p l e (headSpec wc_AR_fill rm_AR_fill14).room s m args below meth c H locs 0 0 Q (F0 m 5 ls []) := by
    intro ih IH l1 l2 l3 y_p0 H locs ls hf hl hP hD hS
    unfold b_AR_fill14_5 at hf
    refine lv_iload_n hx hb dAR_fill_5 rfl (lv_at hl 2 rfl) ?_
    refine lv_iload_n hx hb dAR_fill_6 rfl (lv_at hl 3 rfl) ?_
    refine lx_icmp_ge (tgt := 20) hx hb dAR_fill_7 (by decide) hf (fun hf => ?_) (fun hf => ?_)
    · obtain rfl := Option.some.inj hf
      rw [← hQ]
      exact W.vret hx hb hr (fun t ht hW => ⟨⟨rfl, by rw [ht]; exact hP⟩, hS.F ht⟩) hS.2.2 dAR_fill_20
    · refine lv_aload_n hx hb dAR_fill_10 rfl (lv_at hl 0 rfl) ?_
      refine lv_iload_n hx hb dAR_fill_11 rfl (lv_at hl 2 rfl) ?_
      refine lv_iload_n hx hb dAR_fill_12 rfl (lv_at hl 1 rfl) ?_
      refine lx_iast hx hb hK hP hD hS 0 0 rfl rfl (by decide) dAR_fill_13 hf (fun hf H locs hP hD hS => ?_)
      have hP : va_P (dC, dI) vwCl (wArr K 14 q_p0 f_p0 (aw y_p0 l2 l1)) H := hP
      have hD : va_D A (wArr K 14 q_p0 f_p0 (aw y_p0 l2 l1)) := hD
      refine lx_iinc (k := 2) (d := 1) hx hb dAR_fill_14 hl rfl (by decide +kernel) (by decide) rfl (fun ls hl => ?_)
      refine lv_goto (tgt := 5) hx hb dAR_fill_17 (by decide) ?_
      have hf := fz_s hf
      have hf := fz_s hf
      exact IH l1 (iA l2 1) l3 (aw y_p0 l2 l1) _ _ _ hf (lv_sub hl [1, 2, 0, 3] rfl) hP hD hS
  have key : ∀ k : Nat, (∀ (l1 l2 l3 y_p0 : Nat) (H : Heap) (locs : List Loc) (ls : Array Slot), fr_AR_fill14 x1 z_p0 k l1 l2 l3 y_p0 = some r → lv_has ls 4 [(0, .ref q_p0), (1, .int (nI l1)), (2, .int (nI l2)), (3, .int (nI l3))] → va_P (dC, dI) vwCl (wArr K 14 q_p0 f_p0 y_p0) H → va_D A (wArr K 14 q_p0 f_p0 y_p0) → va_S A s.heap H locs → W p l e (headSpec wc_AR_fill rm_AR_fill14).room s m args below meth c H locs 0 0 Q (F0 m 5 ls [])) := by
    intro k
    induction k with
    | zero => exact fun l1 l2 l3 y_p0 H locs ls hf _ _ _ _ => no_s (α := Nat) (r := r) hf
    | succ k IH => exact fun l1 l2 l3 y_p0 H locs ls hf => hb_5 (fr_AR_fill14 x1 z_p0 k) IH l1 l2 l3 y_p0 H locs ls ((frs_AR_fill14_5 x1 z_p0 k l1 l2 l3 y_p0).symm.trans hf)
  have IH := key 1000000
  have hf : e_AR_fill14 (fr_AR_fill14 x1 z_p0 1000000) x1 z_p0 = some r := hf
  unfold e_AR_fill14 at hf
  generalize fr_AR_fill14 x1 z_p0 1000000 = ih at hf IH
  refine lv_iconst (v := nI 0) hx hb dAR_fill_0 (by decide +kernel) ?_
  refine lv_istore_n hx hb dAR_fill_1 rfl hl (by decide) rfl (fun ls hl => ?_)
  refine lv_aload_n hx hb dAR_fill_2 rfl (lv_at hl 1 rfl) ?_
  refine va_alen hx hb hK hP 0 0 rfl rfl (v := nI 14) rfl dAR_fill_3 ?_
  refine lv_istore_n hx hb dAR_fill_4 rfl hl (by decide) rfl (fun ls hl => ?_)
  exact IH x1 0 14 z_p0 _ _ _ hf (lv_sub hl [2, 3, 1, 0] rfl) hP hD hS
noncomputable def j_FG4_findNeighbours_67 (ih : Nat → Nat → Nat → Nat → Nat → Option (Nat × Nat × Nat)) (x0 : Nat) (x1 : Nat) (z_t_diagonals : Nat) (z_t_links : Nat) (z_t_steps : Nat) (z_t_queue : Nat) (l1 : Nat) (l3 : Nat) (l4 : Nat) (y_t_steps : Nat) (y_t_queue : Nat) : Option (Nat × Nat × Nat) := (fz (iA l4 1) (fun u7 => ih l1 l3 u7 y_t_steps y_t_queue))
noncomputable def b_FG4_findNeighbours_5 (ih : Nat → Nat → Nat → Nat → Nat → Option (Nat × Nat × Nat)) (x0 : Nat) (x1 : Nat) (z_t_diagonals : Nat) (z_t_links : Nat) (z_t_steps : Nat) (z_t_queue : Nat) (l1 : Nat) (l3 : Nat) (l4 : Nat) (y_t_steps : Nat) (y_t_queue : Nat) : Option (Nat × Nat × Nat) := (bif iLt l4 z_t_diagonals then (rd z_t_links 42 (iA (iM l1 z_t_diagonals) l4) (fun v1 => (rd y_t_steps 14 v1 (fun v2 => (bif iEq v2 4294967295 then (rd y_t_steps 14 l1 (fun v3 => (bif Nat.blt v1 14 then (bif Nat.blt l3 14 then (fz (iA l3 1) (fun u4 => fz (aw y_t_steps v1 (iA v3 1)) (fun u5 => fz (aw y_t_queue l3 v1) (fun u6 => j_FG4_findNeighbours_67 ih x0 x1 z_t_diagonals z_t_links z_t_steps z_t_queue l1 u4 l4 u5 u6)))) else none) else none))) else (j_FG4_findNeighbours_67 ih x0 x1 z_t_diagonals z_t_links z_t_steps z_t_queue l1 l3 l4 y_t_steps y_t_queue)))))) else some (l3, y_t_steps, y_t_queue))
noncomputable def fr_FG4_findNeighbours (x0 : Nat) (x1 : Nat) (z_t_diagonals : Nat) (z_t_links : Nat) (z_t_steps : Nat) (z_t_queue : Nat) (k : Nat) : Nat → Nat → Nat → Nat → Nat → Option (Nat × Nat × Nat) := Nat.rec (motive := fun _ => Nat → Nat → Nat → Nat → Nat → Option (Nat × Nat × Nat)) (fun _ _ _ _ _ => none) (fun _ ih a0 a1 a2 a3 a4 => b_FG4_findNeighbours_5 ih x0 x1 z_t_diagonals z_t_links z_t_steps z_t_queue a0 a1 a2 a3 a4) k
theorem frs_FG4_findNeighbours_5 (x0 : Nat) (x1 : Nat) (z_t_diagonals : Nat) (z_t_links : Nat) (z_t_steps : Nat) (z_t_queue : Nat) (k : Nat) (l1 : Nat) (l3 : Nat) (l4 : Nat) (y_t_steps : Nat) (y_t_queue : Nat) : fr_FG4_findNeighbours x0 x1 z_t_diagonals z_t_links z_t_steps z_t_queue (k + 1) l1 l3 l4 y_t_steps y_t_queue = b_FG4_findNeighbours_5 (fr_FG4_findNeighbours x0 x1 z_t_diagonals z_t_links z_t_steps z_t_queue k) x0 x1 z_t_diagonals z_t_links z_t_steps z_t_queue l1 l3 l4 y_t_steps y_t_queue := rfl
noncomputable def e_FG4_findNeighbours (ih : Nat → Nat → Nat → Nat → Nat → Option (Nat × Nat × Nat)) (x0 : Nat) (x1 : Nat) (z_t_diagonals : Nat) (z_t_links : Nat) (z_t_steps : Nat) (z_t_queue : Nat) : Option (Nat × Nat × Nat) := (ih x0 x1 0 z_t_steps z_t_queue)
noncomputable def f_FG4_findNeighbours (x0 : Nat) (x1 : Nat) (z_t_diagonals : Nat) (z_t_links : Nat) (z_t_steps : Nat) (z_t_queue : Nat) : Option (Nat × Nat × Nat) := e_FG4_findNeighbours (fr_FG4_findNeighbours x0 x1 z_t_diagonals z_t_links z_t_steps z_t_queue 1000000) x0 x1 z_t_diagonals z_t_links z_t_steps z_t_queue
abbrev rm_FG4_findNeighbours : Room := { frames := 0, cells := 0, slots := 0, locals := 0 }
set_option maxHeartbeats 4000000 in
set_option maxRecDepth 100000 in
theorem ct_FG4_findNeighbours (l : Launch) (dC : Nat → ClassId) (dI : Nat → Nat → Nat) (K : Nat → ClassId) (q_t : Nat) (q_t_links : Nat) (q_t_steps : Nat) (q_t_queue : Nat) (f_t_links : Nat → Int32) (f_t_steps : Nat → Int32) (f_t_queue : Nat → Int32) (x0 : Nat) (x1 : Nat) (z_t_words : Nat) (z_t_diagonals : Nat) (z_t_links : Nat) (z_t_steps : Nat) (z_t_queue : Nat) (r : Nat × Nat × Nat) (hf : f_FG4_findNeighbours x0 x1 z_t_diagonals z_t_links z_t_steps z_t_queue = some r) : Ct l (dC, dI) vwCl yFG_findNeighbours wc_FG_findNeighbours rm_FG4_findNeighbours (tyK K) [.ref q_t, .int (nI x0), .int (nI x1)] (w_FG4 K q_t q_t_links q_t_steps q_t_queue f_t_links f_t_steps f_t_queue z_t_words z_t_diagonals z_t_links z_t_steps z_t_queue) (w_FG4 K q_t q_t_links q_t_steps q_t_queue f_t_links f_t_steps f_t_queue z_t_words z_t_diagonals z_t_links r.2.1 r.2.2) (some (.int (nI r.1))) := by
  intro sz
  refine Met.ofW (cc := cFG_findNeighbours) (maxL := 6) (ret := (some .int)) (by decide) rfl ?_
  intro p e s m args below meth c s₁ B hml hv
  obtain ⟨rfl, hsz, hP, hK, hD0⟩ := hv
  have hx := B.exec
  have hb := B.bytes
  have hr := B.returns
  have hts := atoms_spec (ws := wc_FG_findNeighbours) B.pre
  have hws : ∀ w ∈ WS, w.before _ s = true := fun w h => hts w (List.mem_cons_of_mem _ h)
  have hown : s.vm.findClass RFG = some m.cls := findClass_of_methodNamed B.named
  have hlocks := B.notSynchronized
  subst hsz
  have hD := hD0.self (sz := s.heap.size)
  generalize hAe : va_A (w_FG4 K q_t q_t_links q_t_steps q_t_queue f_t_links f_t_steps f_t_queue z_t_words z_t_diagonals z_t_links z_t_steps z_t_queue) s.heap.size = A at hD ⊢
  have hA : ∀ q : Nat, s.heap.size ≤ q → A q := fun q h => by rw [← hAe]; exact Or.inr h
  have hS : va_S A s.heap s.heap [] := va_S.rf
  have hl := lv_entry ([.ref q_t, .int (nI x0), .int (nI x1)]) (n := 6) (Nat.le_of_ble_eq_true rfl)
  rw [lg_entry_eq]
  generalize (lg_sl ([.ref q_t, .int (nI x0), .int (nI x1)]) ++ List.replicate (6 - (lg_sl ([.ref q_t, .int (nI x0), .int (nI x1)])).length) Slot.unset).toArray = ls at hl ⊢
  have hl : lv_has ls 6 [(0, .ref q_t), (1, .int (nI x0)), (2, .int (nI x1))] := hl
  generalize ([.ref q_t, .int (nI x0), .int (nI x1)] : List Value).toArray = args at hts hws ⊢
  generalize hQ : MQ below _ _ _ _ _ _ = Q
  have hj_67 : ∀ (ih : Nat → Nat → Nat → Nat → Nat → Option (Nat × Nat × Nat)) (IH : (∀ (l1 l3 l4 y_t_steps y_t_queue : Nat) (H : Heap) (locs : List Loc) (ls : Array Slot), ih l1 l3 l4 y_t_steps y_t_queue = some r → lv_has ls 6 [(0, .ref q_t), (1, .int (nI l1)), (3, .int (nI l3)), (4, .int (nI l4))] → va_P (dC, dI) vwCl (w_FG4 K q_t q_t_links q_t_steps q_t_queue f_t_links f_t_steps f_t_queue z_t_words z_t_diagonals z_t_links y_t_steps y_t_queue) H → va_D A (w_FG4 K q_t q_t_links q_t_steps q_t_queue f_t_links f_t_steps f_t_queue z_t_words z_t_diagonals z_t_links y_t_steps y_t_queue) → va_S A s.heap H locs → W p l e (headSpec wc_FG_findNeighbours rm_FG4_findNeighbours).room s m args below meth c H locs 0 0 Q (F0 m 5 ls []))), ∀ (l1 l3 l4 y_t_steps y_t_queue : Nat) (H : Heap) (locs : List Loc) (ls : Array Slot), j_FG4_findNeighbours_67 ih x0 x1 z_t_diagonals z_t_links z_t_steps z_t_queue l1 l3 l4 y_t_steps y_t_queue = some r → lv_has ls 6 [(0, .ref q_t), (1, .int (nI l1)), (3, .int (nI l3)), (4, .int (nI l4))] → va_P (dC, dI) vwCl (w_FG4 K q_t q_t_links q_t_steps q_t_queue f_t_links f_t_steps f_t_queue z_t_words z_t_diagonals z_t_links y_t_steps y_t_queue) H → va_D A (w_FG4 K q_t q_t_links q_t_steps q_t_queue f_t_links f_t_steps f_t_queue z_t_words z_t_diagonals z_t_links y_t_steps y_t_queue) → va_S A s.heap H locs → W p l e (headSpec wc_FG_findNeighbours rm_FG4_findNeighbours).room s m args below meth c H locs 0 0 Q (F0 m 67 ls []) := by
    intro ih IH l1 l3 l4 y_t_steps y_t_queue H locs ls hf hl hP hD hS
    unfold j_FG4_findNeighbours_67 at hf
    refine lx_iinc (k := 3) (d := 1) hx hb dFG_findNeighbours_67 hl rfl (by decide +kernel) (by decide) rfl (fun ls hl => ?_)
    refine lv_goto (tgt := 5) hx hb dFG_findNeighbours_70 (by decide) ?_
    have hf := fz_s hf
    exact IH l1 l3 (iA l4 1) y_t_steps y_t_queue _ _ _ hf (lv_sub hl [1, 2, 3, 0] rfl) hP hD hS
  have hb_5 : ∀ (ih : Nat → Nat → Nat → Nat → Nat → Option (Nat × Nat × Nat)) (IH : (∀ (l1 l3 l4 y_t_steps y_t_queue : Nat) (H : Heap) (locs : List Loc) (ls : Array Slot), ih l1 l3 l4 y_t_steps y_t_queue = some r → lv_has ls 6 [(0, .ref q_t), (1, .int (nI l1)), (3, .int (nI l3)), (4, .int (nI l4))] → va_P (dC, dI) vwCl (w_FG4 K q_t q_t_links q_t_steps q_t_queue f_t_links f_t_steps f_t_queue z_t_words z_t_diagonals z_t_links y_t_steps y_t_queue) H → va_D A (w_FG4 K q_t q_t_links q_t_steps q_t_queue f_t_links f_t_steps f_t_queue z_t_words z_t_diagonals z_t_links y_t_steps y_t_queue) → va_S A s.heap H locs → W p l e (headSpec wc_FG_findNeighbours rm_FG4_findNeighbours).room s m args below meth c H locs 0 0 Q (F0 m 5 ls []))), ∀ (l1 l3 l4 y_t_steps y_t_queue : Nat) (H : Heap) (locs : List Loc) (ls : Array Slot), b_FG4_findNeighbours_5 ih x0 x1 z_t_diagonals z_t_links z_t_steps z_t_queue l1 l3 l4 y_t_steps y_t_queue = some r → lv_has ls 6 [(0, .ref q_t), (1, .int (nI l1)), (3, .int (nI l3)), (4, .int (nI l4))] → va_P (dC, dI) vwCl (w_FG4 K q_t q_t_links q_t_steps q_t_queue f_t_links f_t_steps f_t_queue z_t_words z_t_diagonals z_t_links y_t_steps y_t_queue) H → va_D A (w_FG4 K q_t q_t_links q_t_steps q_t_queue f_t_links f_t_steps f_t_queue z_t_words z_t_diagonals z_t_links y_t_steps y_t_queue) → va_S A s.heap H locs → W p l e (headSpec wc_FG_findNeighbours rm_FG4_findNeighbours).room s m args below meth c H locs 0 0 Q (F0 m 5 ls []) := by
    intro ih IH l1 l3 l4 y_t_steps y_t_queue H locs ls hf hl hP hD hS
    unfold b_FG4_findNeighbours_5 at hf
    refine lv_iload hx hb dFG_findNeighbours_5 (lv_at hl 3 rfl) ?_
    refine lv_aload_n hx hb dFG_findNeighbours_7 rfl (lv_at hl 0 rfl) ?_
    refine va_get (D := (dC, dI)) (ci := 6) (v := .int (nI z_t_diagonals)) (C := RFG) (T := TFG) (N := 5) hx hb hws uwFG hown hK hP 0 rfl rfl 1 (by decide) (hws _ kf_FG_20) (fun _ h9 => h9) rfl dFG_findNeighbours_8 ?_
    refine lx_icmp_ge (tgt := 73) hx hb dFG_findNeighbours_11 (by decide) hf (fun hf => ?_) (fun hf => ?_)
    · refine lv_iload_n hx hb dFG_findNeighbours_73 rfl (lv_at hl 2 rfl) ?_
      obtain rfl := Option.some.inj hf
      rw [← hQ]
      exact W.iret (v := nI l3) hx hb hr (fun t ht hW => ⟨⟨rfl, by rw [ht]; exact hP⟩, hS.F ht⟩) hS.2.2 dFG_findNeighbours_74
    · refine lv_aload_n hx hb dFG_findNeighbours_14 rfl (lv_at hl 0 rfl) ?_
      refine va_get (D := (dC, dI)) (ci := 6) (v := .ref q_t_links) (C := RFG) (T := TFG) (N := 5) hx hb hws uwFG hown hK hP 0 rfl rfl 2 (by decide) (hws _ kf_FG_23) (fun _ h9 => h9) rfl dFG_findNeighbours_15 ?_
      refine lv_iload_n hx hb dFG_findNeighbours_18 rfl (lv_at hl 1 rfl) ?_
      refine lv_aload_n hx hb dFG_findNeighbours_19 rfl (lv_at hl 0 rfl) ?_
      refine va_get (D := (dC, dI)) (ci := 6) (v := .int (nI z_t_diagonals)) (C := RFG) (T := TFG) (N := 5) hx hb hws uwFG hown hK hP 0 rfl rfl 1 (by decide) (hws _ kf_FG_20) (fun _ h9 => h9) rfl dFG_findNeighbours_20 ?_
      refine lx_imul hx hb dFG_findNeighbours_23 ?_
      refine lv_iload hx hb dFG_findNeighbours_24 (lv_at hl 3 rfl) ?_
      refine lx_iadd hx hb dFG_findNeighbours_26 ?_
      refine lx_iald hx hb hK hP 1 0 rfl rfl (by decide) dFG_findNeighbours_27 hf (fun v1 _ hf => ?_)
      refine lv_istore hx hb dFG_findNeighbours_28 hl (by decide) rfl (fun ls hl => ?_)
      refine lv_aload_n hx hb dFG_findNeighbours_30 rfl (lv_at hl 1 rfl) ?_
      refine va_get (D := (dC, dI)) (ci := 6) (v := .ref q_t_steps) (C := RFG) (T := TFG) (N := 5) hx hb hws uwFG hown hK hP 0 rfl rfl 3 (by decide) (hws _ kf_FG_27) (fun _ h9 => h9) rfl dFG_findNeighbours_31 ?_
      refine lv_iload hx hb dFG_findNeighbours_34 (lv_at hl 0 rfl) ?_
      refine lx_iald hx hb hK hP 2 0 rfl rfl (by decide) dFG_findNeighbours_36 hf (fun v2 _ hf => ?_)
      refine lv_iconst (v := nI 4294967295) hx hb dFG_findNeighbours_37 (by decide +kernel) ?_
      refine lx_icmp_ne (tgt := 67) hx hb dFG_findNeighbours_38 (by decide) hf (fun hf => ?_) (fun hf => ?_)
      · exact hj_67 _ IH l1 l3 l4 y_t_steps y_t_queue _ _ _ hf (lv_sub hl [1, 2, 3, 4] rfl) hP hD hS
      · refine lv_aload_n hx hb dFG_findNeighbours_41 rfl (lv_at hl 1 rfl) ?_
        refine va_get (D := (dC, dI)) (ci := 6) (v := .ref q_t_steps) (C := RFG) (T := TFG) (N := 5) hx hb hws uwFG hown hK hP 0 rfl rfl 3 (by decide) (hws _ kf_FG_27) (fun _ h9 => h9) rfl dFG_findNeighbours_42 ?_
        refine lv_iload hx hb dFG_findNeighbours_45 (lv_at hl 0 rfl) ?_
        refine lv_aload_n hx hb dFG_findNeighbours_47 rfl (lv_at hl 1 rfl) ?_
        refine va_get (D := (dC, dI)) (ci := 6) (v := .ref q_t_steps) (C := RFG) (T := TFG) (N := 5) hx hb hws uwFG hown hK hP 0 rfl rfl 3 (by decide) (hws _ kf_FG_27) (fun _ h9 => h9) rfl dFG_findNeighbours_48 ?_
        refine lv_iload_n hx hb dFG_findNeighbours_51 rfl (lv_at hl 2 rfl) ?_
        refine lx_iald hx hb hK hP 2 0 rfl rfl (by decide) dFG_findNeighbours_52 hf (fun v3 _ hf => ?_)
        refine lv_iconst (v := nI 1) hx hb dFG_findNeighbours_53 (by decide +kernel) ?_
        refine lx_iadd hx hb dFG_findNeighbours_54 ?_
        refine lx_iast hx hb hK hP hD hS 2 0 rfl rfl (by decide) dFG_findNeighbours_55 hf (fun hf H locs hP hD hS => ?_)
        have hP : va_P (dC, dI) vwCl (w_FG4 K q_t q_t_links q_t_steps q_t_queue f_t_links f_t_steps f_t_queue z_t_words z_t_diagonals z_t_links (aw y_t_steps v1 (iA v3 1)) y_t_queue) H := hP
        have hD : va_D A (w_FG4 K q_t q_t_links q_t_steps q_t_queue f_t_links f_t_steps f_t_queue z_t_words z_t_diagonals z_t_links (aw y_t_steps v1 (iA v3 1)) y_t_queue) := hD
        refine lv_aload_n hx hb dFG_findNeighbours_56 rfl (lv_at hl 1 rfl) ?_
        refine va_get (D := (dC, dI)) (ci := 6) (v := .ref q_t_queue) (C := RFG) (T := TFG) (N := 5) hx hb hws uwFG hown hK hP 0 rfl rfl 4 (by decide) (hws _ kf_FG_30) (fun _ h9 => h9) rfl dFG_findNeighbours_57 ?_
        refine lv_iload_n hx hb dFG_findNeighbours_60 rfl (lv_at hl 3 rfl) ?_
        refine lv_iload hx hb dFG_findNeighbours_61 (lv_at hl 0 rfl) ?_
        refine lx_iast hx hb hK hP hD hS 3 0 rfl rfl (by decide) dFG_findNeighbours_63 hf (fun hf H locs hP hD hS => ?_)
        have hP : va_P (dC, dI) vwCl (w_FG4 K q_t q_t_links q_t_steps q_t_queue f_t_links f_t_steps f_t_queue z_t_words z_t_diagonals z_t_links (aw y_t_steps v1 (iA v3 1)) (aw y_t_queue l3 v1)) H := hP
        have hD : va_D A (w_FG4 K q_t q_t_links q_t_steps q_t_queue f_t_links f_t_steps f_t_queue z_t_words z_t_diagonals z_t_links (aw y_t_steps v1 (iA v3 1)) (aw y_t_queue l3 v1)) := hD
        refine lx_iinc (k := 3) (d := 1) hx hb dFG_findNeighbours_64 hl rfl (by decide +kernel) (by decide) rfl (fun ls hl => ?_)
        have hf := fz_s hf
        have hf := fz_s hf
        have hf := fz_s hf
        exact hj_67 _ IH l1 (iA l3 1) l4 (aw y_t_steps v1 (iA v3 1)) (aw y_t_queue l3 v1) _ _ _ hf (lv_sub hl [2, 3, 0, 4] rfl) hP hD hS
  have key : ∀ k : Nat, (∀ (l1 l3 l4 y_t_steps y_t_queue : Nat) (H : Heap) (locs : List Loc) (ls : Array Slot), fr_FG4_findNeighbours x0 x1 z_t_diagonals z_t_links z_t_steps z_t_queue k l1 l3 l4 y_t_steps y_t_queue = some r → lv_has ls 6 [(0, .ref q_t), (1, .int (nI l1)), (3, .int (nI l3)), (4, .int (nI l4))] → va_P (dC, dI) vwCl (w_FG4 K q_t q_t_links q_t_steps q_t_queue f_t_links f_t_steps f_t_queue z_t_words z_t_diagonals z_t_links y_t_steps y_t_queue) H → va_D A (w_FG4 K q_t q_t_links q_t_steps q_t_queue f_t_links f_t_steps f_t_queue z_t_words z_t_diagonals z_t_links y_t_steps y_t_queue) → va_S A s.heap H locs → W p l e (headSpec wc_FG_findNeighbours rm_FG4_findNeighbours).room s m args below meth c H locs 0 0 Q (F0 m 5 ls [])) := by
    intro k
    induction k with
    | zero => exact fun l1 l3 l4 y_t_steps y_t_queue H locs ls hf _ _ _ _ => no_s (α := Nat × Nat × Nat) (r := r) hf
    | succ k IH => exact fun l1 l3 l4 y_t_steps y_t_queue H locs ls hf => hb_5 (fr_FG4_findNeighbours x0 x1 z_t_diagonals z_t_links z_t_steps z_t_queue k) IH l1 l3 l4 y_t_steps y_t_queue H locs ls ((frs_FG4_findNeighbours_5 x0 x1 z_t_diagonals z_t_links z_t_steps z_t_queue k l1 l3 l4 y_t_steps y_t_queue).symm.trans hf)
  have IH := key 1000000
  have hf : e_FG4_findNeighbours (fr_FG4_findNeighbours x0 x1 z_t_diagonals z_t_links z_t_steps z_t_queue 1000000) x0 x1 z_t_diagonals z_t_links z_t_steps z_t_queue = some r := hf
  unfold e_FG4_findNeighbours at hf
  generalize fr_FG4_findNeighbours x0 x1 z_t_diagonals z_t_links z_t_steps z_t_queue 1000000 = ih at hf IH
  refine lv_iload_n hx hb dFG_findNeighbours_0 rfl (lv_at hl 2 rfl) ?_
  refine lv_istore_n hx hb dFG_findNeighbours_1 rfl hl (by decide) rfl (fun ls hl => ?_)
  refine lv_iconst (v := nI 0) hx hb dFG_findNeighbours_2 (by decide +kernel) ?_
  refine lv_istore hx hb dFG_findNeighbours_3 hl (by decide) rfl (fun ls hl => ?_)
  exact IH x0 x1 0 z_t_steps z_t_queue _ _ _ hf (lv_sub hl [2, 3, 1, 0] rfl) hP hD hS
noncomputable def j_FG4_distance_71 (ih : Nat → Nat → Nat → Nat → Nat → Option (Nat × Nat × Nat)) (x0 : Nat) (x1 : Nat) (z_t_words : Nat) (z_t_diagonals : Nat) (z_t_links : Nat) (z_t_steps : Nat) (z_t_queue : Nat) (l2 : Nat) (y_t_steps : Nat) (y_t_queue : Nat) : Option (Nat × Nat × Nat) := (rd y_t_steps 14 l2 (fun v11 => some (v11, y_t_steps, y_t_queue)))
noncomputable def b_FG4_distance_27 (ih : Nat → Nat → Nat → Nat → Nat → Option (Nat × Nat × Nat)) (x0 : Nat) (x1 : Nat) (z_t_words : Nat) (z_t_diagonals : Nat) (z_t_links : Nat) (z_t_steps : Nat) (z_t_queue : Nat) (l2 : Nat) (l3 : Nat) (l4 : Nat) (y_t_steps : Nat) (y_t_queue : Nat) : Option (Nat × Nat × Nat) := (bif iLt l4 z_t_words then (bif iLt l4 l3 then (rd y_t_steps 14 l2 (fun v4 => (bif iEq v4 4294967295 then (rd y_t_queue 14 l4 (fun v5 => (Option.bind (f_FG4_findNeighbours v5 l3 z_t_diagonals z_t_links y_t_steps y_t_queue) (fun q6 => (fz q6.1 (fun u7 => fz (iA l4 1) (fun u8 => fz q6.2.1 (fun u9 => fz q6.2.2 (fun u10 => ih l2 u7 u8 u9 u10))))))))) else (j_FG4_distance_71 ih x0 x1 z_t_words z_t_diagonals z_t_links z_t_steps z_t_queue l2 y_t_steps y_t_queue)))) else (j_FG4_distance_71 ih x0 x1 z_t_words z_t_diagonals z_t_links z_t_steps z_t_queue l2 y_t_steps y_t_queue)) else (j_FG4_distance_71 ih x0 x1 z_t_words z_t_diagonals z_t_links z_t_steps z_t_queue l2 y_t_steps y_t_queue))
noncomputable def fr_FG4_distance (x0 : Nat) (x1 : Nat) (z_t_words : Nat) (z_t_diagonals : Nat) (z_t_links : Nat) (z_t_steps : Nat) (z_t_queue : Nat) (k : Nat) : Nat → Nat → Nat → Nat → Nat → Option (Nat × Nat × Nat) := Nat.rec (motive := fun _ => Nat → Nat → Nat → Nat → Nat → Option (Nat × Nat × Nat)) (fun _ _ _ _ _ => none) (fun _ ih a0 a1 a2 a3 a4 => b_FG4_distance_27 ih x0 x1 z_t_words z_t_diagonals z_t_links z_t_steps z_t_queue a0 a1 a2 a3 a4) k
theorem frs_FG4_distance_27 (x0 : Nat) (x1 : Nat) (z_t_words : Nat) (z_t_diagonals : Nat) (z_t_links : Nat) (z_t_steps : Nat) (z_t_queue : Nat) (k : Nat) (l2 : Nat) (l3 : Nat) (l4 : Nat) (y_t_steps : Nat) (y_t_queue : Nat) : fr_FG4_distance x0 x1 z_t_words z_t_diagonals z_t_links z_t_steps z_t_queue (k + 1) l2 l3 l4 y_t_steps y_t_queue = b_FG4_distance_27 (fr_FG4_distance x0 x1 z_t_words z_t_diagonals z_t_links z_t_steps z_t_queue k) x0 x1 z_t_words z_t_diagonals z_t_links z_t_steps z_t_queue l2 l3 l4 y_t_steps y_t_queue := rfl
noncomputable def e_FG4_distance (ih : Nat → Nat → Nat → Nat → Nat → Option (Nat × Nat × Nat)) (x0 : Nat) (x1 : Nat) (z_t_words : Nat) (z_t_diagonals : Nat) (z_t_links : Nat) (z_t_steps : Nat) (z_t_queue : Nat) : Option (Nat × Nat × Nat) := (Option.bind (f_AR_fill14 4294967295 z_t_steps) (fun q1 => (bif Nat.blt x0 14 then (bif Nat.blt 0 14 then (fz (aw q1 x0 0) (fun u2 => fz (aw z_t_queue 0 x0) (fun u3 => ih x1 1 0 u2 u3))) else none) else none)))
noncomputable def f_FG4_distance (x0 : Nat) (x1 : Nat) (z_t_words : Nat) (z_t_diagonals : Nat) (z_t_links : Nat) (z_t_steps : Nat) (z_t_queue : Nat) : Option (Nat × Nat × Nat) := e_FG4_distance (fr_FG4_distance x0 x1 z_t_words z_t_diagonals z_t_links z_t_steps z_t_queue 1000000) x0 x1 z_t_words z_t_diagonals z_t_links z_t_steps z_t_queue
abbrev rm_FG4_distance : Room := { frames := 1, cells := 0, slots := 0, locals := 25 }
set_option maxHeartbeats 4000000 in
set_option maxRecDepth 100000 in
theorem ct_FG4_distance (l : Launch) (dC : Nat → ClassId) (dI : Nat → Nat → Nat) (K : Nat → ClassId) (q_t : Nat) (q_t_links : Nat) (q_t_steps : Nat) (q_t_queue : Nat) (f_t_links : Nat → Int32) (f_t_steps : Nat → Int32) (f_t_queue : Nat → Int32) (x0 : Nat) (x1 : Nat) (z_t_words : Nat) (z_t_diagonals : Nat) (z_t_links : Nat) (z_t_steps : Nat) (z_t_queue : Nat) (r : Nat × Nat × Nat) (hf : f_FG4_distance x0 x1 z_t_words z_t_diagonals z_t_links z_t_steps z_t_queue = some r) : Ct l (dC, dI) vwCl yFG_distance wc_FG_distance rm_FG4_distance (tyK K) [.ref q_t, .int (nI x0), .int (nI x1)] (w_FG4 K q_t q_t_links q_t_steps q_t_queue f_t_links f_t_steps f_t_queue z_t_words z_t_diagonals z_t_links z_t_steps z_t_queue) (w_FG4 K q_t q_t_links q_t_steps q_t_queue f_t_links f_t_steps f_t_queue z_t_words z_t_diagonals z_t_links r.2.1 r.2.2) (some (.int (nI r.1))) := by
  intro sz
  refine Met.ofW (cc := cFG_distance) (maxL := 5) (ret := (some .int)) (by decide) rfl ?_
  intro p e s m args below meth c s₁ B hml hv
  obtain ⟨rfl, hsz, hP, hK, hD0⟩ := hv
  have hx := B.exec
  have hb := B.bytes
  have hr := B.returns
  have hts := atoms_spec (ws := wc_FG_distance) B.pre
  have hws : ∀ w ∈ WS, w.before _ s = true := fun w h => hts w (List.mem_cons_of_mem _ h)
  have hown : s.vm.findClass RFG = some m.cls := findClass_of_methodNamed B.named
  have hlocks := B.notSynchronized
  subst hsz
  have hD := hD0.self (sz := s.heap.size)
  generalize hAe : va_A (w_FG4 K q_t q_t_links q_t_steps q_t_queue f_t_links f_t_steps f_t_queue z_t_words z_t_diagonals z_t_links z_t_steps z_t_queue) s.heap.size = A at hD ⊢
  have hA : ∀ q : Nat, s.heap.size ≤ q → A q := fun q h => by rw [← hAe]; exact Or.inr h
  have hS : va_S A s.heap s.heap [] := va_S.rf
  have hl := lv_entry ([.ref q_t, .int (nI x0), .int (nI x1)]) (n := 5) (Nat.le_of_ble_eq_true rfl)
  rw [lg_entry_eq]
  generalize (lg_sl ([.ref q_t, .int (nI x0), .int (nI x1)]) ++ List.replicate (5 - (lg_sl ([.ref q_t, .int (nI x0), .int (nI x1)])).length) Slot.unset).toArray = ls at hl ⊢
  have hl : lv_has ls 5 [(0, .ref q_t), (1, .int (nI x0)), (2, .int (nI x1))] := hl
  generalize ([.ref q_t, .int (nI x0), .int (nI x1)] : List Value).toArray = args at hts hws ⊢
  generalize hQ : MQ below _ _ _ _ _ _ = Q
  have hj_71 : ∀ (ih : Nat → Nat → Nat → Nat → Nat → Option (Nat × Nat × Nat)) (IH : (∀ (l2 l3 l4 y_t_steps y_t_queue : Nat) (H : Heap) (locs : List Loc) (ls : Array Slot), ih l2 l3 l4 y_t_steps y_t_queue = some r → lv_has ls 5 [(0, .ref q_t), (2, .int (nI l2)), (3, .int (nI l3)), (4, .int (nI l4))] → va_P (dC, dI) vwCl (w_FG4 K q_t q_t_links q_t_steps q_t_queue f_t_links f_t_steps f_t_queue z_t_words z_t_diagonals z_t_links y_t_steps y_t_queue) H → va_D A (w_FG4 K q_t q_t_links q_t_steps q_t_queue f_t_links f_t_steps f_t_queue z_t_words z_t_diagonals z_t_links y_t_steps y_t_queue) → va_S A s.heap H locs → W p l e (headSpec wc_FG_distance rm_FG4_distance).room s m args below meth c H locs 0 0 Q (F0 m 27 ls []))), ∀ (l2 y_t_steps y_t_queue : Nat) (H : Heap) (locs : List Loc) (ls : Array Slot), j_FG4_distance_71 ih x0 x1 z_t_words z_t_diagonals z_t_links z_t_steps z_t_queue l2 y_t_steps y_t_queue = some r → lv_has ls 5 [(0, .ref q_t), (2, .int (nI l2))] → va_P (dC, dI) vwCl (w_FG4 K q_t q_t_links q_t_steps q_t_queue f_t_links f_t_steps f_t_queue z_t_words z_t_diagonals z_t_links y_t_steps y_t_queue) H → va_D A (w_FG4 K q_t q_t_links q_t_steps q_t_queue f_t_links f_t_steps f_t_queue z_t_words z_t_diagonals z_t_links y_t_steps y_t_queue) → va_S A s.heap H locs → W p l e (headSpec wc_FG_distance rm_FG4_distance).room s m args below meth c H locs 0 0 Q (F0 m 71 ls []) := by
    intro ih IH l2 y_t_steps y_t_queue H locs ls hf hl hP hD hS
    unfold j_FG4_distance_71 at hf
    refine lv_aload_n hx hb dFG_distance_71 rfl (lv_at hl 0 rfl) ?_
    refine va_get (D := (dC, dI)) (ci := 6) (v := .ref q_t_steps) (C := RFG) (T := TFG) (N := 5) hx hb hws uwFG hown hK hP 0 rfl rfl 3 (by decide) (hws _ kf_FG_27) (fun _ h9 => h9) rfl dFG_distance_72 ?_
    refine lv_iload_n hx hb dFG_distance_75 rfl (lv_at hl 1 rfl) ?_
    refine lx_iald hx hb hK hP 2 0 rfl rfl (by decide) dFG_distance_76 hf (fun v11 _ hf => ?_)
    obtain rfl := Option.some.inj hf
    rw [← hQ]
    exact W.iret (v := nI v11) hx hb hr (fun t ht hW => ⟨⟨rfl, by rw [ht]; exact hP⟩, hS.F ht⟩) hS.2.2 dFG_distance_77
  have hb_27 : ∀ (ih : Nat → Nat → Nat → Nat → Nat → Option (Nat × Nat × Nat)) (IH : (∀ (l2 l3 l4 y_t_steps y_t_queue : Nat) (H : Heap) (locs : List Loc) (ls : Array Slot), ih l2 l3 l4 y_t_steps y_t_queue = some r → lv_has ls 5 [(0, .ref q_t), (2, .int (nI l2)), (3, .int (nI l3)), (4, .int (nI l4))] → va_P (dC, dI) vwCl (w_FG4 K q_t q_t_links q_t_steps q_t_queue f_t_links f_t_steps f_t_queue z_t_words z_t_diagonals z_t_links y_t_steps y_t_queue) H → va_D A (w_FG4 K q_t q_t_links q_t_steps q_t_queue f_t_links f_t_steps f_t_queue z_t_words z_t_diagonals z_t_links y_t_steps y_t_queue) → va_S A s.heap H locs → W p l e (headSpec wc_FG_distance rm_FG4_distance).room s m args below meth c H locs 0 0 Q (F0 m 27 ls []))), ∀ (l2 l3 l4 y_t_steps y_t_queue : Nat) (H : Heap) (locs : List Loc) (ls : Array Slot), b_FG4_distance_27 ih x0 x1 z_t_words z_t_diagonals z_t_links z_t_steps z_t_queue l2 l3 l4 y_t_steps y_t_queue = some r → lv_has ls 5 [(0, .ref q_t), (2, .int (nI l2)), (3, .int (nI l3)), (4, .int (nI l4))] → va_P (dC, dI) vwCl (w_FG4 K q_t q_t_links q_t_steps q_t_queue f_t_links f_t_steps f_t_queue z_t_words z_t_diagonals z_t_links y_t_steps y_t_queue) H → va_D A (w_FG4 K q_t q_t_links q_t_steps q_t_queue f_t_links f_t_steps f_t_queue z_t_words z_t_diagonals z_t_links y_t_steps y_t_queue) → va_S A s.heap H locs → W p l e (headSpec wc_FG_distance rm_FG4_distance).room s m args below meth c H locs 0 0 Q (F0 m 27 ls []) := by
    intro ih IH l2 l3 l4 y_t_steps y_t_queue H locs ls hf hl hP hD hS
    unfold b_FG4_distance_27 at hf
    refine lv_iload hx hb dFG_distance_27 (lv_at hl 3 rfl) ?_
    refine lv_aload_n hx hb dFG_distance_29 rfl (lv_at hl 0 rfl) ?_
    refine va_get (D := (dC, dI)) (ci := 6) (v := .int (nI z_t_words)) (C := RFG) (T := TFG) (N := 5) hx hb hws uwFG hown hK hP 0 rfl rfl 0 (by decide) (hws _ kf_FG_15) (fun _ h9 => h9) rfl dFG_distance_30 ?_
    refine lx_icmp_ge (tgt := 71) hx hb dFG_distance_33 (by decide) hf (fun hf => ?_) (fun hf => ?_)
    · exact hj_71 _ IH l2 y_t_steps y_t_queue _ _ _ hf (lv_sub hl [0, 1] rfl) hP hD hS
    · refine lv_iload hx hb dFG_distance_36 (lv_at hl 3 rfl) ?_
      refine lv_iload_n hx hb dFG_distance_38 rfl (lv_at hl 2 rfl) ?_
      refine lx_icmp_ge (tgt := 71) hx hb dFG_distance_39 (by decide) hf (fun hf => ?_) (fun hf => ?_)
      · exact hj_71 _ IH l2 y_t_steps y_t_queue _ _ _ hf (lv_sub hl [0, 1] rfl) hP hD hS
      · refine lv_aload_n hx hb dFG_distance_42 rfl (lv_at hl 0 rfl) ?_
        refine va_get (D := (dC, dI)) (ci := 6) (v := .ref q_t_steps) (C := RFG) (T := TFG) (N := 5) hx hb hws uwFG hown hK hP 0 rfl rfl 3 (by decide) (hws _ kf_FG_27) (fun _ h9 => h9) rfl dFG_distance_43 ?_
        refine lv_iload_n hx hb dFG_distance_46 rfl (lv_at hl 1 rfl) ?_
        refine lx_iald hx hb hK hP 2 0 rfl rfl (by decide) dFG_distance_47 hf (fun v4 _ hf => ?_)
        refine lv_iconst (v := nI 4294967295) hx hb dFG_distance_48 (by decide +kernel) ?_
        refine lx_icmp_ne (tgt := 71) hx hb dFG_distance_49 (by decide) hf (fun hf => ?_) (fun hf => ?_)
        · exact hj_71 _ IH l2 y_t_steps y_t_queue _ _ _ hf (lv_sub hl [0, 1] rfl) hP hD hS
        · refine lv_aload_n hx hb dFG_distance_52 rfl (lv_at hl 0 rfl) ?_
          refine lv_aload_n hx hb dFG_distance_53 rfl (lv_at hl 0 rfl) ?_
          refine va_get (D := (dC, dI)) (ci := 6) (v := .ref q_t_queue) (C := RFG) (T := TFG) (N := 5) hx hb hws uwFG hown hK hP 0 rfl rfl 4 (by decide) (hws _ kf_FG_30) (fun _ h9 => h9) rfl dFG_distance_54 ?_
          refine lv_iload hx hb dFG_distance_57 (lv_at hl 3 rfl) ?_
          refine lx_iald hx hb hK hP 3 0 rfl rfl (by decide) dFG_distance_59 hf (fun v5 _ hf => ?_)
          refine lv_iload_n hx hb dFG_distance_60 rfl (lv_at hl 2 rfl) ?_
          obtain ⟨q6, hq, hf⟩ := bd_s hf
          refine ct_callr (ws' := w_FG4 K q_t q_t_links q_t_steps q_t_queue f_t_links f_t_steps f_t_queue z_t_words z_t_diagonals z_t_links q6.2.1 q6.2.2) (va_runV (As := [.int (nI v5), .int (nI l3)]) (rest := []) ⟨hx, hb, hml, hown, hws⟩ (ct_FG4_findNeighbours l dC dI K q_t q_t_links q_t_steps q_t_queue f_t_links f_t_steps f_t_queue v5 l3 z_t_words z_t_diagonals z_t_links y_t_steps y_t_queue q6 hq _) ⟨cb_FG_findNeighbours hws rm_FG4_findNeighbours (hws _ km_FG_70) ⟨Nat.le_of_ble_eq_true rfl, Nat.le_of_ble_eq_true rfl⟩, hws _ ki_FG_findNeighbours, hws _ ke_FG_FG_findNeighbours_FG_findNeighbours⟩ ⟨ct_blind _ _ _, va_recv (ci := 6) (q0 := 0) (q := (RFG, TFG, 5)) hK hP rfl rfl, ct_pre (cs := (w_FG4 K q_t q_t_links q_t_steps q_t_queue f_t_links f_t_steps f_t_queue z_t_words z_t_diagonals z_t_links y_t_steps y_t_queue)) hP hD hK [0, 1, 2, 3] (by decide) rfl _⟩ rfl rfl hl.1 rfl (lv_room (Nat.le_of_ble_eq_true rfl)) dFG_distance_61 ⟨Nat.le_of_ble_eq_true rfl, Nat.le_of_ble_eq_true rfl⟩) hP hD hS hA [0, 1, 2, 3] rfl rfl rfl rfl (fun H locs hP hD hS => ?_)
          have hP : va_P (dC, dI) vwCl (w_FG4 K q_t q_t_links q_t_steps q_t_queue f_t_links f_t_steps f_t_queue z_t_words z_t_diagonals z_t_links q6.2.1 q6.2.2) H := hP
          have hD : va_D A (w_FG4 K q_t q_t_links q_t_steps q_t_queue f_t_links f_t_steps f_t_queue z_t_words z_t_diagonals z_t_links q6.2.1 q6.2.2) := hD
          refine lv_istore_n hx hb dFG_distance_64 rfl hl (by decide) rfl (fun ls hl => ?_)
          refine lx_iinc (k := 3) (d := 1) hx hb dFG_distance_65 hl rfl (by decide +kernel) (by decide) rfl (fun ls hl => ?_)
          refine lv_goto (tgt := 27) hx hb dFG_distance_68 (by decide) ?_
          have hf := fz_s hf
          have hf := fz_s hf
          have hf := fz_s hf
          have hf := fz_s hf
          exact IH l2 q6.1 (iA l4 1) q6.2.1 q6.2.2 _ _ _ hf (lv_sub hl [2, 3, 1, 0] rfl) hP hD hS
  have key : ∀ k : Nat, (∀ (l2 l3 l4 y_t_steps y_t_queue : Nat) (H : Heap) (locs : List Loc) (ls : Array Slot), fr_FG4_distance x0 x1 z_t_words z_t_diagonals z_t_links z_t_steps z_t_queue k l2 l3 l4 y_t_steps y_t_queue = some r → lv_has ls 5 [(0, .ref q_t), (2, .int (nI l2)), (3, .int (nI l3)), (4, .int (nI l4))] → va_P (dC, dI) vwCl (w_FG4 K q_t q_t_links q_t_steps q_t_queue f_t_links f_t_steps f_t_queue z_t_words z_t_diagonals z_t_links y_t_steps y_t_queue) H → va_D A (w_FG4 K q_t q_t_links q_t_steps q_t_queue f_t_links f_t_steps f_t_queue z_t_words z_t_diagonals z_t_links y_t_steps y_t_queue) → va_S A s.heap H locs → W p l e (headSpec wc_FG_distance rm_FG4_distance).room s m args below meth c H locs 0 0 Q (F0 m 27 ls [])) := by
    intro k
    induction k with
    | zero => exact fun l2 l3 l4 y_t_steps y_t_queue H locs ls hf _ _ _ _ => no_s (α := Nat × Nat × Nat) (r := r) hf
    | succ k IH => exact fun l2 l3 l4 y_t_steps y_t_queue H locs ls hf => hb_27 (fr_FG4_distance x0 x1 z_t_words z_t_diagonals z_t_links z_t_steps z_t_queue k) IH l2 l3 l4 y_t_steps y_t_queue H locs ls ((frs_FG4_distance_27 x0 x1 z_t_words z_t_diagonals z_t_links z_t_steps z_t_queue k l2 l3 l4 y_t_steps y_t_queue).symm.trans hf)
  have IH := key 1000000
  have hf : e_FG4_distance (fr_FG4_distance x0 x1 z_t_words z_t_diagonals z_t_links z_t_steps z_t_queue 1000000) x0 x1 z_t_words z_t_diagonals z_t_links z_t_steps z_t_queue = some r := hf
  unfold e_FG4_distance at hf
  generalize fr_FG4_distance x0 x1 z_t_words z_t_diagonals z_t_links z_t_steps z_t_queue 1000000 = ih at hf IH
  refine lv_aload_n hx hb dFG_distance_0 rfl (lv_at hl 0 rfl) ?_
  refine va_get (D := (dC, dI)) (ci := 6) (v := .ref q_t_steps) (C := RFG) (T := TFG) (N := 5) hx hb hws uwFG hown hK hP 0 rfl rfl 3 (by decide) (hws _ kf_FG_27) (fun _ h9 => h9) rfl dFG_distance_1 ?_
  refine lv_iconst (v := nI 4294967295) hx hb dFG_distance_4 (by decide +kernel) ?_
  obtain ⟨q1, hq, hf⟩ := bd_s hf
  refine ct_callv (ws' := w_FG4 K q_t q_t_links q_t_steps q_t_queue f_t_links f_t_steps f_t_queue z_t_words z_t_diagonals z_t_links q1 z_t_queue) (va_runS (As := [.ref q_t_steps, .int (nI 4294967295)]) (rest := []) ⟨hx, hb, hml, hown, hws⟩ (ct_AR_fill14 l dC dI K q_t_steps f_t_steps 4294967295 z_t_steps q1 hq _) ⟨cb_AR_fill hws rm_AR_fill14 (hws _ km_FG_64) ⟨Nat.le_of_ble_eq_true rfl, Nat.le_of_ble_eq_true rfl⟩, hws _ ks_AR_fill⟩ ⟨ct_blind _ _ _, ct_pre (cs := (wArr K 14 q_t_steps f_t_steps z_t_steps)) hP hD hK [2] (by decide) rfl _⟩ rfl rfl hl.1 rfl (lv_room (Nat.le_of_ble_eq_true rfl)) dFG_distance_5 ⟨Nat.le_of_ble_eq_true rfl, Nat.le_of_ble_eq_true rfl⟩) hP hD hS hA [2] rfl rfl rfl rfl (fun H locs hP hD hS => ?_)
  have hP : va_P (dC, dI) vwCl (w_FG4 K q_t q_t_links q_t_steps q_t_queue f_t_links f_t_steps f_t_queue z_t_words z_t_diagonals z_t_links q1 z_t_queue) H := hP
  have hD : va_D A (w_FG4 K q_t q_t_links q_t_steps q_t_queue f_t_links f_t_steps f_t_queue z_t_words z_t_diagonals z_t_links q1 z_t_queue) := hD
  refine lv_aload_n hx hb dFG_distance_8 rfl (lv_at hl 0 rfl) ?_
  refine va_get (D := (dC, dI)) (ci := 6) (v := .ref q_t_steps) (C := RFG) (T := TFG) (N := 5) hx hb hws uwFG hown hK hP 0 rfl rfl 3 (by decide) (hws _ kf_FG_27) (fun _ h9 => h9) rfl dFG_distance_9 ?_
  refine lv_iload_n hx hb dFG_distance_12 rfl (lv_at hl 1 rfl) ?_
  refine lv_iconst (v := nI 0) hx hb dFG_distance_13 (by decide +kernel) ?_
  refine lx_iast hx hb hK hP hD hS 2 0 rfl rfl (by decide) dFG_distance_14 hf (fun hf H locs hP hD hS => ?_)
  have hP : va_P (dC, dI) vwCl (w_FG4 K q_t q_t_links q_t_steps q_t_queue f_t_links f_t_steps f_t_queue z_t_words z_t_diagonals z_t_links (aw q1 x0 0) z_t_queue) H := hP
  have hD : va_D A (w_FG4 K q_t q_t_links q_t_steps q_t_queue f_t_links f_t_steps f_t_queue z_t_words z_t_diagonals z_t_links (aw q1 x0 0) z_t_queue) := hD
  refine lv_aload_n hx hb dFG_distance_15 rfl (lv_at hl 0 rfl) ?_
  refine va_get (D := (dC, dI)) (ci := 6) (v := .ref q_t_queue) (C := RFG) (T := TFG) (N := 5) hx hb hws uwFG hown hK hP 0 rfl rfl 4 (by decide) (hws _ kf_FG_30) (fun _ h9 => h9) rfl dFG_distance_16 ?_
  refine lv_iconst (v := nI 0) hx hb dFG_distance_19 (by decide +kernel) ?_
  refine lv_iload_n hx hb dFG_distance_20 rfl (lv_at hl 1 rfl) ?_
  refine lx_iast hx hb hK hP hD hS 3 0 rfl rfl (by decide) dFG_distance_21 hf (fun hf H locs hP hD hS => ?_)
  have hP : va_P (dC, dI) vwCl (w_FG4 K q_t q_t_links q_t_steps q_t_queue f_t_links f_t_steps f_t_queue z_t_words z_t_diagonals z_t_links (aw q1 x0 0) (aw z_t_queue 0 x0)) H := hP
  have hD : va_D A (w_FG4 K q_t q_t_links q_t_steps q_t_queue f_t_links f_t_steps f_t_queue z_t_words z_t_diagonals z_t_links (aw q1 x0 0) (aw z_t_queue 0 x0)) := hD
  refine lv_iconst (v := nI 1) hx hb dFG_distance_22 (by decide +kernel) ?_
  refine lv_istore_n hx hb dFG_distance_23 rfl hl (by decide) rfl (fun ls hl => ?_)
  refine lv_iconst (v := nI 0) hx hb dFG_distance_24 (by decide +kernel) ?_
  refine lv_istore hx hb dFG_distance_25 hl (by decide) rfl (fun ls hl => ?_)
  have hf := fz_s hf
  have hf := fz_s hf
  exact IH x1 1 0 (aw q1 x0 0) (aw z_t_queue 0 x0) _ _ _ hf (lv_sub hl [2, 4, 1, 0] rfl) hP hD hS
noncomputable abbrev w_FG5 (K : Nat → ClassId) (q_t : Nat) (q_t_links : Nat) (q_t_steps : Nat) (q_t_queue : Nat) (f_t_links : Nat → Int32) (f_t_steps : Nat → Int32) (f_t_queue : Nat → Int32) (z_t_words : Nat) (z_t_diagonals : Nat) (z_t_links : Nat) (z_t_steps : Nat) (z_t_queue : Nat) : va_W := [(q_t, .inr (6, [.int (nI z_t_words), .int (nI z_t_diagonals), .ref q_t_links, .ref q_t_steps, .ref q_t_queue])), (q_t_links, .inl (K 0, 168, .inl (ar f_t_links z_t_links))), (q_t_steps, .inl (K 0, 42, .inl (ar f_t_steps z_t_steps))), (q_t_queue, .inl (K 0, 42, .inl (ar f_t_queue z_t_queue)))]
noncomputable def b_AR_fill42_5 (ih : Nat → Nat → Nat → Nat → Option (Nat)) (x1 : Nat) (z_p0 : Nat) (l1 : Nat) (l2 : Nat) (l3 : Nat) (y_p0 : Nat) : Option (Nat) := (bif iLt l2 l3 then (bif Nat.blt l2 42 then (fz (iA l2 1) (fun u1 => fz (aw y_p0 l2 l1) (fun u2 => ih l1 u1 l3 u2))) else none) else some y_p0)
noncomputable def fr_AR_fill42 (x1 : Nat) (z_p0 : Nat) (k : Nat) : Nat → Nat → Nat → Nat → Option (Nat) := Nat.rec (motive := fun _ => Nat → Nat → Nat → Nat → Option (Nat)) (fun _ _ _ _ => none) (fun _ ih a0 a1 a2 a3 => b_AR_fill42_5 ih x1 z_p0 a0 a1 a2 a3) k
theorem frs_AR_fill42_5 (x1 : Nat) (z_p0 : Nat) (k : Nat) (l1 : Nat) (l2 : Nat) (l3 : Nat) (y_p0 : Nat) : fr_AR_fill42 x1 z_p0 (k + 1) l1 l2 l3 y_p0 = b_AR_fill42_5 (fr_AR_fill42 x1 z_p0 k) x1 z_p0 l1 l2 l3 y_p0 := rfl
noncomputable def e_AR_fill42 (ih : Nat → Nat → Nat → Nat → Option (Nat)) (x1 : Nat) (z_p0 : Nat) : Option (Nat) := (ih x1 0 42 z_p0)
noncomputable def f_AR_fill42 (x1 : Nat) (z_p0 : Nat) : Option (Nat) := e_AR_fill42 (fr_AR_fill42 x1 z_p0 1000000) x1 z_p0
abbrev rm_AR_fill42 : Room := { frames := 0, cells := 0, slots := 0, locals := 0 }
set_option maxHeartbeats 4000000 in
set_option maxRecDepth 100000 in
theorem ct_AR_fill42 (l : Launch) (dC : Nat → ClassId) (dI : Nat → Nat → Nat) (K : Nat → ClassId) (q_p0 : Nat) (f_p0 : Nat → Int32) (x1 : Nat) (z_p0 : Nat) (r : Nat) (hf : f_AR_fill42 x1 z_p0 = some r) : Ct l (dC, dI) vwCl yAR_fill wc_AR_fill rm_AR_fill42 (tyK K) [.ref q_p0, .int (nI x1)] (wArr K 42 q_p0 f_p0 z_p0) (wArr K 42 q_p0 f_p0 r) none := by
  intro sz
  refine Met.ofW (cc := cAR_fill) (maxL := 4) (ret := none) (by decide) rfl ?_
  intro p e s m args below meth c s₁ B hml hv
  obtain ⟨rfl, hsz, hP, hK, hD0⟩ := hv
  have hx := B.exec
  have hb := B.bytes
  have hr := B.returns
  have hts := atoms_spec (ws := wc_AR_fill) B.pre
  have hws : ∀ w ∈ WS, w.before _ s = true := fun w h => hts w (List.mem_cons_of_mem _ h)
  have hown : s.vm.findClass RAR = some m.cls := findClass_of_methodNamed B.named
  have hlocks := B.notSynchronized
  subst hsz
  have hD := hD0.self (sz := s.heap.size)
  generalize hAe : va_A (wArr K 42 q_p0 f_p0 z_p0) s.heap.size = A at hD ⊢
  have hA : ∀ q : Nat, s.heap.size ≤ q → A q := fun q h => by rw [← hAe]; exact Or.inr h
  have hS : va_S A s.heap s.heap [] := va_S.rf
  have hl := lv_entry ([.ref q_p0, .int (nI x1)]) (n := 4) (Nat.le_of_ble_eq_true rfl)
  rw [lg_entry_eq]
  generalize (lg_sl ([.ref q_p0, .int (nI x1)]) ++ List.replicate (4 - (lg_sl ([.ref q_p0, .int (nI x1)])).length) Slot.unset).toArray = ls at hl ⊢
  have hl : lv_has ls 4 [(0, .ref q_p0), (1, .int (nI x1))] := hl
  generalize ([.ref q_p0, .int (nI x1)] : List Value).toArray = args at hts hws ⊢
  generalize hQ : MQ below _ _ _ _ _ _ = Q
  have hb_5 : ∀ (ih : Nat → Nat → Nat → Nat → Option (Nat)) (IH : (∀ (l1 l2 l3 y_p0 : Nat) (H : Heap) (locs : List Loc) (ls : Array Slot), ih l1 l2 l3 y_p0 = some r → lv_has ls 4 [(0, .ref q_p0), (1, .int (nI l1)), (2, .int (nI l2)), (3, .int (nI l3))] → va_P (dC, dI) vwCl (wArr K 42 q_p0 f_p0 y_p0) H → va_D A (wArr K 42 q_p0 f_p0 y_p0) → va_S A s.heap H locs → W p l e (headSpec wc_AR_fill rm_AR_fill42).room s m args below meth c H locs 0 0 Q (F0 m 5 ls []))), ∀ (l1 l2 l3 y_p0 : Nat) (H : Heap) (locs : List Loc) (ls : Array Slot), b_AR_fill42_5 ih x1 z_p0 l1 l2 l3 y_p0 = some r → lv_has ls 4 [(0, .ref q_p0), (1, .int (nI l1)), (2, .int (nI l2)), (3, .int (nI l3))] → va_P (dC, dI) vwCl (wArr K 42 q_p0 f_p0 y_p0) H → va_D A (wArr K 42 q_p0 f_p0 y_p0) → va_S A s.heap H locs → W p l e (headSpec wc_AR_fill rm_AR_fill42).room s m args below meth c H locs 0 0 Q (F0 m 5 ls []) := by
    intro ih IH l1 l2 l3 y_p0 H locs ls hf hl hP hD hS
    unfold b_AR_fill42_5 at hf
    refine lv_iload_n hx hb dAR_fill_5 rfl (lv_at hl 2 rfl) ?_
    refine lv_iload_n hx hb dAR_fill_6 rfl (lv_at hl 3 rfl) ?_
    refine lx_icmp_ge (tgt := 20) hx hb dAR_fill_7 (by decide) hf (fun hf => ?_) (fun hf => ?_)
    · obtain rfl := Option.some.inj hf
      rw [← hQ]
      exact W.vret hx hb hr (fun t ht hW => ⟨⟨rfl, by rw [ht]; exact hP⟩, hS.F ht⟩) hS.2.2 dAR_fill_20
    · refine lv_aload_n hx hb dAR_fill_10 rfl (lv_at hl 0 rfl) ?_
      refine lv_iload_n hx hb dAR_fill_11 rfl (lv_at hl 2 rfl) ?_
      refine lv_iload_n hx hb dAR_fill_12 rfl (lv_at hl 1 rfl) ?_
      refine lx_iast hx hb hK hP hD hS 0 0 rfl rfl (by decide) dAR_fill_13 hf (fun hf H locs hP hD hS => ?_)
      have hP : va_P (dC, dI) vwCl (wArr K 42 q_p0 f_p0 (aw y_p0 l2 l1)) H := hP
      have hD : va_D A (wArr K 42 q_p0 f_p0 (aw y_p0 l2 l1)) := hD
      refine lx_iinc (k := 2) (d := 1) hx hb dAR_fill_14 hl rfl (by decide +kernel) (by decide) rfl (fun ls hl => ?_)
      refine lv_goto (tgt := 5) hx hb dAR_fill_17 (by decide) ?_
      have hf := fz_s hf
      have hf := fz_s hf
      exact IH l1 (iA l2 1) l3 (aw y_p0 l2 l1) _ _ _ hf (lv_sub hl [1, 2, 0, 3] rfl) hP hD hS
  have key : ∀ k : Nat, (∀ (l1 l2 l3 y_p0 : Nat) (H : Heap) (locs : List Loc) (ls : Array Slot), fr_AR_fill42 x1 z_p0 k l1 l2 l3 y_p0 = some r → lv_has ls 4 [(0, .ref q_p0), (1, .int (nI l1)), (2, .int (nI l2)), (3, .int (nI l3))] → va_P (dC, dI) vwCl (wArr K 42 q_p0 f_p0 y_p0) H → va_D A (wArr K 42 q_p0 f_p0 y_p0) → va_S A s.heap H locs → W p l e (headSpec wc_AR_fill rm_AR_fill42).room s m args below meth c H locs 0 0 Q (F0 m 5 ls [])) := by
    intro k
    induction k with
    | zero => exact fun l1 l2 l3 y_p0 H locs ls hf _ _ _ _ => no_s (α := Nat) (r := r) hf
    | succ k IH => exact fun l1 l2 l3 y_p0 H locs ls hf => hb_5 (fr_AR_fill42 x1 z_p0 k) IH l1 l2 l3 y_p0 H locs ls ((frs_AR_fill42_5 x1 z_p0 k l1 l2 l3 y_p0).symm.trans hf)
  have IH := key 1000000
  have hf : e_AR_fill42 (fr_AR_fill42 x1 z_p0 1000000) x1 z_p0 = some r := hf
  unfold e_AR_fill42 at hf
  generalize fr_AR_fill42 x1 z_p0 1000000 = ih at hf IH
  refine lv_iconst (v := nI 0) hx hb dAR_fill_0 (by decide +kernel) ?_
  refine lv_istore_n hx hb dAR_fill_1 rfl hl (by decide) rfl (fun ls hl => ?_)
  refine lv_aload_n hx hb dAR_fill_2 rfl (lv_at hl 1 rfl) ?_
  refine va_alen hx hb hK hP 0 0 rfl rfl (v := nI 42) rfl dAR_fill_3 ?_
  refine lv_istore_n hx hb dAR_fill_4 rfl hl (by decide) rfl (fun ls hl => ?_)
  exact IH x1 0 42 z_p0 _ _ _ hf (lv_sub hl [2, 3, 1, 0] rfl) hP hD hS
noncomputable def j_FG5_findNeighbours_67 (ih : Nat → Nat → Nat → Nat → Nat → Option (Nat × Nat × Nat)) (x0 : Nat) (x1 : Nat) (z_t_diagonals : Nat) (z_t_links : Nat) (z_t_steps : Nat) (z_t_queue : Nat) (l1 : Nat) (l3 : Nat) (l4 : Nat) (y_t_steps : Nat) (y_t_queue : Nat) : Option (Nat × Nat × Nat) := (fz (iA l4 1) (fun u7 => ih l1 l3 u7 y_t_steps y_t_queue))
noncomputable def b_FG5_findNeighbours_5 (ih : Nat → Nat → Nat → Nat → Nat → Option (Nat × Nat × Nat)) (x0 : Nat) (x1 : Nat) (z_t_diagonals : Nat) (z_t_links : Nat) (z_t_steps : Nat) (z_t_queue : Nat) (l1 : Nat) (l3 : Nat) (l4 : Nat) (y_t_steps : Nat) (y_t_queue : Nat) : Option (Nat × Nat × Nat) := (bif iLt l4 z_t_diagonals then (rd z_t_links 168 (iA (iM l1 z_t_diagonals) l4) (fun v1 => (rd y_t_steps 42 v1 (fun v2 => (bif iEq v2 4294967295 then (rd y_t_steps 42 l1 (fun v3 => (bif Nat.blt v1 42 then (bif Nat.blt l3 42 then (fz (iA l3 1) (fun u4 => fz (aw y_t_steps v1 (iA v3 1)) (fun u5 => fz (aw y_t_queue l3 v1) (fun u6 => j_FG5_findNeighbours_67 ih x0 x1 z_t_diagonals z_t_links z_t_steps z_t_queue l1 u4 l4 u5 u6)))) else none) else none))) else (j_FG5_findNeighbours_67 ih x0 x1 z_t_diagonals z_t_links z_t_steps z_t_queue l1 l3 l4 y_t_steps y_t_queue)))))) else some (l3, y_t_steps, y_t_queue))
noncomputable def fr_FG5_findNeighbours (x0 : Nat) (x1 : Nat) (z_t_diagonals : Nat) (z_t_links : Nat) (z_t_steps : Nat) (z_t_queue : Nat) (k : Nat) : Nat → Nat → Nat → Nat → Nat → Option (Nat × Nat × Nat) := Nat.rec (motive := fun _ => Nat → Nat → Nat → Nat → Nat → Option (Nat × Nat × Nat)) (fun _ _ _ _ _ => none) (fun _ ih a0 a1 a2 a3 a4 => b_FG5_findNeighbours_5 ih x0 x1 z_t_diagonals z_t_links z_t_steps z_t_queue a0 a1 a2 a3 a4) k
theorem frs_FG5_findNeighbours_5 (x0 : Nat) (x1 : Nat) (z_t_diagonals : Nat) (z_t_links : Nat) (z_t_steps : Nat) (z_t_queue : Nat) (k : Nat) (l1 : Nat) (l3 : Nat) (l4 : Nat) (y_t_steps : Nat) (y_t_queue : Nat) : fr_FG5_findNeighbours x0 x1 z_t_diagonals z_t_links z_t_steps z_t_queue (k + 1) l1 l3 l4 y_t_steps y_t_queue = b_FG5_findNeighbours_5 (fr_FG5_findNeighbours x0 x1 z_t_diagonals z_t_links z_t_steps z_t_queue k) x0 x1 z_t_diagonals z_t_links z_t_steps z_t_queue l1 l3 l4 y_t_steps y_t_queue := rfl
noncomputable def e_FG5_findNeighbours (ih : Nat → Nat → Nat → Nat → Nat → Option (Nat × Nat × Nat)) (x0 : Nat) (x1 : Nat) (z_t_diagonals : Nat) (z_t_links : Nat) (z_t_steps : Nat) (z_t_queue : Nat) : Option (Nat × Nat × Nat) := (ih x0 x1 0 z_t_steps z_t_queue)
noncomputable def f_FG5_findNeighbours (x0 : Nat) (x1 : Nat) (z_t_diagonals : Nat) (z_t_links : Nat) (z_t_steps : Nat) (z_t_queue : Nat) : Option (Nat × Nat × Nat) := e_FG5_findNeighbours (fr_FG5_findNeighbours x0 x1 z_t_diagonals z_t_links z_t_steps z_t_queue 1000000) x0 x1 z_t_diagonals z_t_links z_t_steps z_t_queue
abbrev rm_FG5_findNeighbours : Room := { frames := 0, cells := 0, slots := 0, locals := 0 }
set_option maxHeartbeats 4000000 in
set_option maxRecDepth 100000 in
theorem ct_FG5_findNeighbours (l : Launch) (dC : Nat → ClassId) (dI : Nat → Nat → Nat) (K : Nat → ClassId) (q_t : Nat) (q_t_links : Nat) (q_t_steps : Nat) (q_t_queue : Nat) (f_t_links : Nat → Int32) (f_t_steps : Nat → Int32) (f_t_queue : Nat → Int32) (x0 : Nat) (x1 : Nat) (z_t_words : Nat) (z_t_diagonals : Nat) (z_t_links : Nat) (z_t_steps : Nat) (z_t_queue : Nat) (r : Nat × Nat × Nat) (hf : f_FG5_findNeighbours x0 x1 z_t_diagonals z_t_links z_t_steps z_t_queue = some r) : Ct l (dC, dI) vwCl yFG_findNeighbours wc_FG_findNeighbours rm_FG5_findNeighbours (tyK K) [.ref q_t, .int (nI x0), .int (nI x1)] (w_FG5 K q_t q_t_links q_t_steps q_t_queue f_t_links f_t_steps f_t_queue z_t_words z_t_diagonals z_t_links z_t_steps z_t_queue) (w_FG5 K q_t q_t_links q_t_steps q_t_queue f_t_links f_t_steps f_t_queue z_t_words z_t_diagonals z_t_links r.2.1 r.2.2) (some (.int (nI r.1))) := by
  intro sz
  refine Met.ofW (cc := cFG_findNeighbours) (maxL := 6) (ret := (some .int)) (by decide) rfl ?_
  intro p e s m args below meth c s₁ B hml hv
  obtain ⟨rfl, hsz, hP, hK, hD0⟩ := hv
  have hx := B.exec
  have hb := B.bytes
  have hr := B.returns
  have hts := atoms_spec (ws := wc_FG_findNeighbours) B.pre
  have hws : ∀ w ∈ WS, w.before _ s = true := fun w h => hts w (List.mem_cons_of_mem _ h)
  have hown : s.vm.findClass RFG = some m.cls := findClass_of_methodNamed B.named
  have hlocks := B.notSynchronized
  subst hsz
  have hD := hD0.self (sz := s.heap.size)
  generalize hAe : va_A (w_FG5 K q_t q_t_links q_t_steps q_t_queue f_t_links f_t_steps f_t_queue z_t_words z_t_diagonals z_t_links z_t_steps z_t_queue) s.heap.size = A at hD ⊢
  have hA : ∀ q : Nat, s.heap.size ≤ q → A q := fun q h => by rw [← hAe]; exact Or.inr h
  have hS : va_S A s.heap s.heap [] := va_S.rf
  have hl := lv_entry ([.ref q_t, .int (nI x0), .int (nI x1)]) (n := 6) (Nat.le_of_ble_eq_true rfl)
  rw [lg_entry_eq]
  generalize (lg_sl ([.ref q_t, .int (nI x0), .int (nI x1)]) ++ List.replicate (6 - (lg_sl ([.ref q_t, .int (nI x0), .int (nI x1)])).length) Slot.unset).toArray = ls at hl ⊢
  have hl : lv_has ls 6 [(0, .ref q_t), (1, .int (nI x0)), (2, .int (nI x1))] := hl
  generalize ([.ref q_t, .int (nI x0), .int (nI x1)] : List Value).toArray = args at hts hws ⊢
  generalize hQ : MQ below _ _ _ _ _ _ = Q
  have hj_67 : ∀ (ih : Nat → Nat → Nat → Nat → Nat → Option (Nat × Nat × Nat)) (IH : (∀ (l1 l3 l4 y_t_steps y_t_queue : Nat) (H : Heap) (locs : List Loc) (ls : Array Slot), ih l1 l3 l4 y_t_steps y_t_queue = some r → lv_has ls 6 [(0, .ref q_t), (1, .int (nI l1)), (3, .int (nI l3)), (4, .int (nI l4))] → va_P (dC, dI) vwCl (w_FG5 K q_t q_t_links q_t_steps q_t_queue f_t_links f_t_steps f_t_queue z_t_words z_t_diagonals z_t_links y_t_steps y_t_queue) H → va_D A (w_FG5 K q_t q_t_links q_t_steps q_t_queue f_t_links f_t_steps f_t_queue z_t_words z_t_diagonals z_t_links y_t_steps y_t_queue) → va_S A s.heap H locs → W p l e (headSpec wc_FG_findNeighbours rm_FG5_findNeighbours).room s m args below meth c H locs 0 0 Q (F0 m 5 ls []))), ∀ (l1 l3 l4 y_t_steps y_t_queue : Nat) (H : Heap) (locs : List Loc) (ls : Array Slot), j_FG5_findNeighbours_67 ih x0 x1 z_t_diagonals z_t_links z_t_steps z_t_queue l1 l3 l4 y_t_steps y_t_queue = some r → lv_has ls 6 [(0, .ref q_t), (1, .int (nI l1)), (3, .int (nI l3)), (4, .int (nI l4))] → va_P (dC, dI) vwCl (w_FG5 K q_t q_t_links q_t_steps q_t_queue f_t_links f_t_steps f_t_queue z_t_words z_t_diagonals z_t_links y_t_steps y_t_queue) H → va_D A (w_FG5 K q_t q_t_links q_t_steps q_t_queue f_t_links f_t_steps f_t_queue z_t_words z_t_diagonals z_t_links y_t_steps y_t_queue) → va_S A s.heap H locs → W p l e (headSpec wc_FG_findNeighbours rm_FG5_findNeighbours).room s m args below meth c H locs 0 0 Q (F0 m 67 ls []) := by
    intro ih IH l1 l3 l4 y_t_steps y_t_queue H locs ls hf hl hP hD hS
    unfold j_FG5_findNeighbours_67 at hf
    refine lx_iinc (k := 3) (d := 1) hx hb dFG_findNeighbours_67 hl rfl (by decide +kernel) (by decide) rfl (fun ls hl => ?_)
    refine lv_goto (tgt := 5) hx hb dFG_findNeighbours_70 (by decide) ?_
    have hf := fz_s hf
    exact IH l1 l3 (iA l4 1) y_t_steps y_t_queue _ _ _ hf (lv_sub hl [1, 2, 3, 0] rfl) hP hD hS
  have hb_5 : ∀ (ih : Nat → Nat → Nat → Nat → Nat → Option (Nat × Nat × Nat)) (IH : (∀ (l1 l3 l4 y_t_steps y_t_queue : Nat) (H : Heap) (locs : List Loc) (ls : Array Slot), ih l1 l3 l4 y_t_steps y_t_queue = some r → lv_has ls 6 [(0, .ref q_t), (1, .int (nI l1)), (3, .int (nI l3)), (4, .int (nI l4))] → va_P (dC, dI) vwCl (w_FG5 K q_t q_t_links q_t_steps q_t_queue f_t_links f_t_steps f_t_queue z_t_words z_t_diagonals z_t_links y_t_steps y_t_queue) H → va_D A (w_FG5 K q_t q_t_links q_t_steps q_t_queue f_t_links f_t_steps f_t_queue z_t_words z_t_diagonals z_t_links y_t_steps y_t_queue) → va_S A s.heap H locs → W p l e (headSpec wc_FG_findNeighbours rm_FG5_findNeighbours).room s m args below meth c H locs 0 0 Q (F0 m 5 ls []))), ∀ (l1 l3 l4 y_t_steps y_t_queue : Nat) (H : Heap) (locs : List Loc) (ls : Array Slot), b_FG5_findNeighbours_5 ih x0 x1 z_t_diagonals z_t_links z_t_steps z_t_queue l1 l3 l4 y_t_steps y_t_queue = some r → lv_has ls 6 [(0, .ref q_t), (1, .int (nI l1)), (3, .int (nI l3)), (4, .int (nI l4))] → va_P (dC, dI) vwCl (w_FG5 K q_t q_t_links q_t_steps q_t_queue f_t_links f_t_steps f_t_queue z_t_words z_t_diagonals z_t_links y_t_steps y_t_queue) H → va_D A (w_FG5 K q_t q_t_links q_t_steps q_t_queue f_t_links f_t_steps f_t_queue z_t_words z_t_diagonals z_t_links y_t_steps y_t_queue) → va_S A s.heap H locs → W p l e (headSpec wc_FG_findNeighbours rm_FG5_findNeighbours).room s m args below meth c H locs 0 0 Q (F0 m 5 ls []) := by
    intro ih IH l1 l3 l4 y_t_steps y_t_queue H locs ls hf hl hP hD hS
    unfold b_FG5_findNeighbours_5 at hf
    refine lv_iload hx hb dFG_findNeighbours_5 (lv_at hl 3 rfl) ?_
    refine lv_aload_n hx hb dFG_findNeighbours_7 rfl (lv_at hl 0 rfl) ?_
    refine va_get (D := (dC, dI)) (ci := 6) (v := .int (nI z_t_diagonals)) (C := RFG) (T := TFG) (N := 5) hx hb hws uwFG hown hK hP 0 rfl rfl 1 (by decide) (hws _ kf_FG_20) (fun _ h9 => h9) rfl dFG_findNeighbours_8 ?_
    refine lx_icmp_ge (tgt := 73) hx hb dFG_findNeighbours_11 (by decide) hf (fun hf => ?_) (fun hf => ?_)
    · refine lv_iload_n hx hb dFG_findNeighbours_73 rfl (lv_at hl 2 rfl) ?_
      obtain rfl := Option.some.inj hf
      rw [← hQ]
      exact W.iret (v := nI l3) hx hb hr (fun t ht hW => ⟨⟨rfl, by rw [ht]; exact hP⟩, hS.F ht⟩) hS.2.2 dFG_findNeighbours_74
    · refine lv_aload_n hx hb dFG_findNeighbours_14 rfl (lv_at hl 0 rfl) ?_
      refine va_get (D := (dC, dI)) (ci := 6) (v := .ref q_t_links) (C := RFG) (T := TFG) (N := 5) hx hb hws uwFG hown hK hP 0 rfl rfl 2 (by decide) (hws _ kf_FG_23) (fun _ h9 => h9) rfl dFG_findNeighbours_15 ?_
      refine lv_iload_n hx hb dFG_findNeighbours_18 rfl (lv_at hl 1 rfl) ?_
      refine lv_aload_n hx hb dFG_findNeighbours_19 rfl (lv_at hl 0 rfl) ?_
      refine va_get (D := (dC, dI)) (ci := 6) (v := .int (nI z_t_diagonals)) (C := RFG) (T := TFG) (N := 5) hx hb hws uwFG hown hK hP 0 rfl rfl 1 (by decide) (hws _ kf_FG_20) (fun _ h9 => h9) rfl dFG_findNeighbours_20 ?_
      refine lx_imul hx hb dFG_findNeighbours_23 ?_
      refine lv_iload hx hb dFG_findNeighbours_24 (lv_at hl 3 rfl) ?_
      refine lx_iadd hx hb dFG_findNeighbours_26 ?_
      refine lx_iald hx hb hK hP 1 0 rfl rfl (by decide) dFG_findNeighbours_27 hf (fun v1 _ hf => ?_)
      refine lv_istore hx hb dFG_findNeighbours_28 hl (by decide) rfl (fun ls hl => ?_)
      refine lv_aload_n hx hb dFG_findNeighbours_30 rfl (lv_at hl 1 rfl) ?_
      refine va_get (D := (dC, dI)) (ci := 6) (v := .ref q_t_steps) (C := RFG) (T := TFG) (N := 5) hx hb hws uwFG hown hK hP 0 rfl rfl 3 (by decide) (hws _ kf_FG_27) (fun _ h9 => h9) rfl dFG_findNeighbours_31 ?_
      refine lv_iload hx hb dFG_findNeighbours_34 (lv_at hl 0 rfl) ?_
      refine lx_iald hx hb hK hP 2 0 rfl rfl (by decide) dFG_findNeighbours_36 hf (fun v2 _ hf => ?_)
      refine lv_iconst (v := nI 4294967295) hx hb dFG_findNeighbours_37 (by decide +kernel) ?_
      refine lx_icmp_ne (tgt := 67) hx hb dFG_findNeighbours_38 (by decide) hf (fun hf => ?_) (fun hf => ?_)
      · exact hj_67 _ IH l1 l3 l4 y_t_steps y_t_queue _ _ _ hf (lv_sub hl [1, 2, 3, 4] rfl) hP hD hS
      · refine lv_aload_n hx hb dFG_findNeighbours_41 rfl (lv_at hl 1 rfl) ?_
        refine va_get (D := (dC, dI)) (ci := 6) (v := .ref q_t_steps) (C := RFG) (T := TFG) (N := 5) hx hb hws uwFG hown hK hP 0 rfl rfl 3 (by decide) (hws _ kf_FG_27) (fun _ h9 => h9) rfl dFG_findNeighbours_42 ?_
        refine lv_iload hx hb dFG_findNeighbours_45 (lv_at hl 0 rfl) ?_
        refine lv_aload_n hx hb dFG_findNeighbours_47 rfl (lv_at hl 1 rfl) ?_
        refine va_get (D := (dC, dI)) (ci := 6) (v := .ref q_t_steps) (C := RFG) (T := TFG) (N := 5) hx hb hws uwFG hown hK hP 0 rfl rfl 3 (by decide) (hws _ kf_FG_27) (fun _ h9 => h9) rfl dFG_findNeighbours_48 ?_
        refine lv_iload_n hx hb dFG_findNeighbours_51 rfl (lv_at hl 2 rfl) ?_
        refine lx_iald hx hb hK hP 2 0 rfl rfl (by decide) dFG_findNeighbours_52 hf (fun v3 _ hf => ?_)
        refine lv_iconst (v := nI 1) hx hb dFG_findNeighbours_53 (by decide +kernel) ?_
        refine lx_iadd hx hb dFG_findNeighbours_54 ?_
        refine lx_iast hx hb hK hP hD hS 2 0 rfl rfl (by decide) dFG_findNeighbours_55 hf (fun hf H locs hP hD hS => ?_)
        have hP : va_P (dC, dI) vwCl (w_FG5 K q_t q_t_links q_t_steps q_t_queue f_t_links f_t_steps f_t_queue z_t_words z_t_diagonals z_t_links (aw y_t_steps v1 (iA v3 1)) y_t_queue) H := hP
        have hD : va_D A (w_FG5 K q_t q_t_links q_t_steps q_t_queue f_t_links f_t_steps f_t_queue z_t_words z_t_diagonals z_t_links (aw y_t_steps v1 (iA v3 1)) y_t_queue) := hD
        refine lv_aload_n hx hb dFG_findNeighbours_56 rfl (lv_at hl 1 rfl) ?_
        refine va_get (D := (dC, dI)) (ci := 6) (v := .ref q_t_queue) (C := RFG) (T := TFG) (N := 5) hx hb hws uwFG hown hK hP 0 rfl rfl 4 (by decide) (hws _ kf_FG_30) (fun _ h9 => h9) rfl dFG_findNeighbours_57 ?_
        refine lv_iload_n hx hb dFG_findNeighbours_60 rfl (lv_at hl 3 rfl) ?_
        refine lv_iload hx hb dFG_findNeighbours_61 (lv_at hl 0 rfl) ?_
        refine lx_iast hx hb hK hP hD hS 3 0 rfl rfl (by decide) dFG_findNeighbours_63 hf (fun hf H locs hP hD hS => ?_)
        have hP : va_P (dC, dI) vwCl (w_FG5 K q_t q_t_links q_t_steps q_t_queue f_t_links f_t_steps f_t_queue z_t_words z_t_diagonals z_t_links (aw y_t_steps v1 (iA v3 1)) (aw y_t_queue l3 v1)) H := hP
        have hD : va_D A (w_FG5 K q_t q_t_links q_t_steps q_t_queue f_t_links f_t_steps f_t_queue z_t_words z_t_diagonals z_t_links (aw y_t_steps v1 (iA v3 1)) (aw y_t_queue l3 v1)) := hD
        refine lx_iinc (k := 3) (d := 1) hx hb dFG_findNeighbours_64 hl rfl (by decide +kernel) (by decide) rfl (fun ls hl => ?_)
        have hf := fz_s hf
        have hf := fz_s hf
        have hf := fz_s hf
        exact hj_67 _ IH l1 (iA l3 1) l4 (aw y_t_steps v1 (iA v3 1)) (aw y_t_queue l3 v1) _ _ _ hf (lv_sub hl [2, 3, 0, 4] rfl) hP hD hS
  have key : ∀ k : Nat, (∀ (l1 l3 l4 y_t_steps y_t_queue : Nat) (H : Heap) (locs : List Loc) (ls : Array Slot), fr_FG5_findNeighbours x0 x1 z_t_diagonals z_t_links z_t_steps z_t_queue k l1 l3 l4 y_t_steps y_t_queue = some r → lv_has ls 6 [(0, .ref q_t), (1, .int (nI l1)), (3, .int (nI l3)), (4, .int (nI l4))] → va_P (dC, dI) vwCl (w_FG5 K q_t q_t_links q_t_steps q_t_queue f_t_links f_t_steps f_t_queue z_t_words z_t_diagonals z_t_links y_t_steps y_t_queue) H → va_D A (w_FG5 K q_t q_t_links q_t_steps q_t_queue f_t_links f_t_steps f_t_queue z_t_words z_t_diagonals z_t_links y_t_steps y_t_queue) → va_S A s.heap H locs → W p l e (headSpec wc_FG_findNeighbours rm_FG5_findNeighbours).room s m args below meth c H locs 0 0 Q (F0 m 5 ls [])) := by
    intro k
    induction k with
    | zero => exact fun l1 l3 l4 y_t_steps y_t_queue H locs ls hf _ _ _ _ => no_s (α := Nat × Nat × Nat) (r := r) hf
    | succ k IH => exact fun l1 l3 l4 y_t_steps y_t_queue H locs ls hf => hb_5 (fr_FG5_findNeighbours x0 x1 z_t_diagonals z_t_links z_t_steps z_t_queue k) IH l1 l3 l4 y_t_steps y_t_queue H locs ls ((frs_FG5_findNeighbours_5 x0 x1 z_t_diagonals z_t_links z_t_steps z_t_queue k l1 l3 l4 y_t_steps y_t_queue).symm.trans hf)
  have IH := key 1000000
  have hf : e_FG5_findNeighbours (fr_FG5_findNeighbours x0 x1 z_t_diagonals z_t_links z_t_steps z_t_queue 1000000) x0 x1 z_t_diagonals z_t_links z_t_steps z_t_queue = some r := hf
  unfold e_FG5_findNeighbours at hf
  generalize fr_FG5_findNeighbours x0 x1 z_t_diagonals z_t_links z_t_steps z_t_queue 1000000 = ih at hf IH
  refine lv_iload_n hx hb dFG_findNeighbours_0 rfl (lv_at hl 2 rfl) ?_
  refine lv_istore_n hx hb dFG_findNeighbours_1 rfl hl (by decide) rfl (fun ls hl => ?_)
  refine lv_iconst (v := nI 0) hx hb dFG_findNeighbours_2 (by decide +kernel) ?_
  refine lv_istore hx hb dFG_findNeighbours_3 hl (by decide) rfl (fun ls hl => ?_)
  exact IH x0 x1 0 z_t_steps z_t_queue _ _ _ hf (lv_sub hl [2, 3, 1, 0] rfl) hP hD hS
noncomputable def j_FG5_distance_71 (ih : Nat → Nat → Nat → Nat → Nat → Option (Nat × Nat × Nat)) (x0 : Nat) (x1 : Nat) (z_t_words : Nat) (z_t_diagonals : Nat) (z_t_links : Nat) (z_t_steps : Nat) (z_t_queue : Nat) (l2 : Nat) (y_t_steps : Nat) (y_t_queue : Nat) : Option (Nat × Nat × Nat) := (rd y_t_steps 42 l2 (fun v11 => some (v11, y_t_steps, y_t_queue)))
noncomputable def b_FG5_distance_27 (ih : Nat → Nat → Nat → Nat → Nat → Option (Nat × Nat × Nat)) (x0 : Nat) (x1 : Nat) (z_t_words : Nat) (z_t_diagonals : Nat) (z_t_links : Nat) (z_t_steps : Nat) (z_t_queue : Nat) (l2 : Nat) (l3 : Nat) (l4 : Nat) (y_t_steps : Nat) (y_t_queue : Nat) : Option (Nat × Nat × Nat) := (bif iLt l4 z_t_words then (bif iLt l4 l3 then (rd y_t_steps 42 l2 (fun v4 => (bif iEq v4 4294967295 then (rd y_t_queue 42 l4 (fun v5 => (Option.bind (f_FG5_findNeighbours v5 l3 z_t_diagonals z_t_links y_t_steps y_t_queue) (fun q6 => (fz q6.1 (fun u7 => fz (iA l4 1) (fun u8 => fz q6.2.1 (fun u9 => fz q6.2.2 (fun u10 => ih l2 u7 u8 u9 u10))))))))) else (j_FG5_distance_71 ih x0 x1 z_t_words z_t_diagonals z_t_links z_t_steps z_t_queue l2 y_t_steps y_t_queue)))) else (j_FG5_distance_71 ih x0 x1 z_t_words z_t_diagonals z_t_links z_t_steps z_t_queue l2 y_t_steps y_t_queue)) else (j_FG5_distance_71 ih x0 x1 z_t_words z_t_diagonals z_t_links z_t_steps z_t_queue l2 y_t_steps y_t_queue))
noncomputable def fr_FG5_distance (x0 : Nat) (x1 : Nat) (z_t_words : Nat) (z_t_diagonals : Nat) (z_t_links : Nat) (z_t_steps : Nat) (z_t_queue : Nat) (k : Nat) : Nat → Nat → Nat → Nat → Nat → Option (Nat × Nat × Nat) := Nat.rec (motive := fun _ => Nat → Nat → Nat → Nat → Nat → Option (Nat × Nat × Nat)) (fun _ _ _ _ _ => none) (fun _ ih a0 a1 a2 a3 a4 => b_FG5_distance_27 ih x0 x1 z_t_words z_t_diagonals z_t_links z_t_steps z_t_queue a0 a1 a2 a3 a4) k
theorem frs_FG5_distance_27 (x0 : Nat) (x1 : Nat) (z_t_words : Nat) (z_t_diagonals : Nat) (z_t_links : Nat) (z_t_steps : Nat) (z_t_queue : Nat) (k : Nat) (l2 : Nat) (l3 : Nat) (l4 : Nat) (y_t_steps : Nat) (y_t_queue : Nat) : fr_FG5_distance x0 x1 z_t_words z_t_diagonals z_t_links z_t_steps z_t_queue (k + 1) l2 l3 l4 y_t_steps y_t_queue = b_FG5_distance_27 (fr_FG5_distance x0 x1 z_t_words z_t_diagonals z_t_links z_t_steps z_t_queue k) x0 x1 z_t_words z_t_diagonals z_t_links z_t_steps z_t_queue l2 l3 l4 y_t_steps y_t_queue := rfl
noncomputable def e_FG5_distance (ih : Nat → Nat → Nat → Nat → Nat → Option (Nat × Nat × Nat)) (x0 : Nat) (x1 : Nat) (z_t_words : Nat) (z_t_diagonals : Nat) (z_t_links : Nat) (z_t_steps : Nat) (z_t_queue : Nat) : Option (Nat × Nat × Nat) := (Option.bind (f_AR_fill42 4294967295 z_t_steps) (fun q1 => (bif Nat.blt x0 42 then (bif Nat.blt 0 42 then (fz (aw q1 x0 0) (fun u2 => fz (aw z_t_queue 0 x0) (fun u3 => ih x1 1 0 u2 u3))) else none) else none)))
noncomputable def f_FG5_distance (x0 : Nat) (x1 : Nat) (z_t_words : Nat) (z_t_diagonals : Nat) (z_t_links : Nat) (z_t_steps : Nat) (z_t_queue : Nat) : Option (Nat × Nat × Nat) := e_FG5_distance (fr_FG5_distance x0 x1 z_t_words z_t_diagonals z_t_links z_t_steps z_t_queue 1000000) x0 x1 z_t_words z_t_diagonals z_t_links z_t_steps z_t_queue
abbrev rm_FG5_distance : Room := { frames := 1, cells := 0, slots := 0, locals := 25 }
set_option maxHeartbeats 4000000 in
set_option maxRecDepth 100000 in
theorem ct_FG5_distance (l : Launch) (dC : Nat → ClassId) (dI : Nat → Nat → Nat) (K : Nat → ClassId) (q_t : Nat) (q_t_links : Nat) (q_t_steps : Nat) (q_t_queue : Nat) (f_t_links : Nat → Int32) (f_t_steps : Nat → Int32) (f_t_queue : Nat → Int32) (x0 : Nat) (x1 : Nat) (z_t_words : Nat) (z_t_diagonals : Nat) (z_t_links : Nat) (z_t_steps : Nat) (z_t_queue : Nat) (r : Nat × Nat × Nat) (hf : f_FG5_distance x0 x1 z_t_words z_t_diagonals z_t_links z_t_steps z_t_queue = some r) : Ct l (dC, dI) vwCl yFG_distance wc_FG_distance rm_FG5_distance (tyK K) [.ref q_t, .int (nI x0), .int (nI x1)] (w_FG5 K q_t q_t_links q_t_steps q_t_queue f_t_links f_t_steps f_t_queue z_t_words z_t_diagonals z_t_links z_t_steps z_t_queue) (w_FG5 K q_t q_t_links q_t_steps q_t_queue f_t_links f_t_steps f_t_queue z_t_words z_t_diagonals z_t_links r.2.1 r.2.2) (some (.int (nI r.1))) := by
  intro sz
  refine Met.ofW (cc := cFG_distance) (maxL := 5) (ret := (some .int)) (by decide) rfl ?_
  intro p e s m args below meth c s₁ B hml hv
  obtain ⟨rfl, hsz, hP, hK, hD0⟩ := hv
  have hx := B.exec
  have hb := B.bytes
  have hr := B.returns
  have hts := atoms_spec (ws := wc_FG_distance) B.pre
  have hws : ∀ w ∈ WS, w.before _ s = true := fun w h => hts w (List.mem_cons_of_mem _ h)
  have hown : s.vm.findClass RFG = some m.cls := findClass_of_methodNamed B.named
  have hlocks := B.notSynchronized
  subst hsz
  have hD := hD0.self (sz := s.heap.size)
  generalize hAe : va_A (w_FG5 K q_t q_t_links q_t_steps q_t_queue f_t_links f_t_steps f_t_queue z_t_words z_t_diagonals z_t_links z_t_steps z_t_queue) s.heap.size = A at hD ⊢
  have hA : ∀ q : Nat, s.heap.size ≤ q → A q := fun q h => by rw [← hAe]; exact Or.inr h
  have hS : va_S A s.heap s.heap [] := va_S.rf
  have hl := lv_entry ([.ref q_t, .int (nI x0), .int (nI x1)]) (n := 5) (Nat.le_of_ble_eq_true rfl)
  rw [lg_entry_eq]
  generalize (lg_sl ([.ref q_t, .int (nI x0), .int (nI x1)]) ++ List.replicate (5 - (lg_sl ([.ref q_t, .int (nI x0), .int (nI x1)])).length) Slot.unset).toArray = ls at hl ⊢
  have hl : lv_has ls 5 [(0, .ref q_t), (1, .int (nI x0)), (2, .int (nI x1))] := hl
  generalize ([.ref q_t, .int (nI x0), .int (nI x1)] : List Value).toArray = args at hts hws ⊢
  generalize hQ : MQ below _ _ _ _ _ _ = Q
  have hj_71 : ∀ (ih : Nat → Nat → Nat → Nat → Nat → Option (Nat × Nat × Nat)) (IH : (∀ (l2 l3 l4 y_t_steps y_t_queue : Nat) (H : Heap) (locs : List Loc) (ls : Array Slot), ih l2 l3 l4 y_t_steps y_t_queue = some r → lv_has ls 5 [(0, .ref q_t), (2, .int (nI l2)), (3, .int (nI l3)), (4, .int (nI l4))] → va_P (dC, dI) vwCl (w_FG5 K q_t q_t_links q_t_steps q_t_queue f_t_links f_t_steps f_t_queue z_t_words z_t_diagonals z_t_links y_t_steps y_t_queue) H → va_D A (w_FG5 K q_t q_t_links q_t_steps q_t_queue f_t_links f_t_steps f_t_queue z_t_words z_t_diagonals z_t_links y_t_steps y_t_queue) → va_S A s.heap H locs → W p l e (headSpec wc_FG_distance rm_FG5_distance).room s m args below meth c H locs 0 0 Q (F0 m 27 ls []))), ∀ (l2 y_t_steps y_t_queue : Nat) (H : Heap) (locs : List Loc) (ls : Array Slot), j_FG5_distance_71 ih x0 x1 z_t_words z_t_diagonals z_t_links z_t_steps z_t_queue l2 y_t_steps y_t_queue = some r → lv_has ls 5 [(0, .ref q_t), (2, .int (nI l2))] → va_P (dC, dI) vwCl (w_FG5 K q_t q_t_links q_t_steps q_t_queue f_t_links f_t_steps f_t_queue z_t_words z_t_diagonals z_t_links y_t_steps y_t_queue) H → va_D A (w_FG5 K q_t q_t_links q_t_steps q_t_queue f_t_links f_t_steps f_t_queue z_t_words z_t_diagonals z_t_links y_t_steps y_t_queue) → va_S A s.heap H locs → W p l e (headSpec wc_FG_distance rm_FG5_distance).room s m args below meth c H locs 0 0 Q (F0 m 71 ls []) := by
    intro ih IH l2 y_t_steps y_t_queue H locs ls hf hl hP hD hS
    unfold j_FG5_distance_71 at hf
    refine lv_aload_n hx hb dFG_distance_71 rfl (lv_at hl 0 rfl) ?_
    refine va_get (D := (dC, dI)) (ci := 6) (v := .ref q_t_steps) (C := RFG) (T := TFG) (N := 5) hx hb hws uwFG hown hK hP 0 rfl rfl 3 (by decide) (hws _ kf_FG_27) (fun _ h9 => h9) rfl dFG_distance_72 ?_
    refine lv_iload_n hx hb dFG_distance_75 rfl (lv_at hl 1 rfl) ?_
    refine lx_iald hx hb hK hP 2 0 rfl rfl (by decide) dFG_distance_76 hf (fun v11 _ hf => ?_)
    obtain rfl := Option.some.inj hf
    rw [← hQ]
    exact W.iret (v := nI v11) hx hb hr (fun t ht hW => ⟨⟨rfl, by rw [ht]; exact hP⟩, hS.F ht⟩) hS.2.2 dFG_distance_77
  have hb_27 : ∀ (ih : Nat → Nat → Nat → Nat → Nat → Option (Nat × Nat × Nat)) (IH : (∀ (l2 l3 l4 y_t_steps y_t_queue : Nat) (H : Heap) (locs : List Loc) (ls : Array Slot), ih l2 l3 l4 y_t_steps y_t_queue = some r → lv_has ls 5 [(0, .ref q_t), (2, .int (nI l2)), (3, .int (nI l3)), (4, .int (nI l4))] → va_P (dC, dI) vwCl (w_FG5 K q_t q_t_links q_t_steps q_t_queue f_t_links f_t_steps f_t_queue z_t_words z_t_diagonals z_t_links y_t_steps y_t_queue) H → va_D A (w_FG5 K q_t q_t_links q_t_steps q_t_queue f_t_links f_t_steps f_t_queue z_t_words z_t_diagonals z_t_links y_t_steps y_t_queue) → va_S A s.heap H locs → W p l e (headSpec wc_FG_distance rm_FG5_distance).room s m args below meth c H locs 0 0 Q (F0 m 27 ls []))), ∀ (l2 l3 l4 y_t_steps y_t_queue : Nat) (H : Heap) (locs : List Loc) (ls : Array Slot), b_FG5_distance_27 ih x0 x1 z_t_words z_t_diagonals z_t_links z_t_steps z_t_queue l2 l3 l4 y_t_steps y_t_queue = some r → lv_has ls 5 [(0, .ref q_t), (2, .int (nI l2)), (3, .int (nI l3)), (4, .int (nI l4))] → va_P (dC, dI) vwCl (w_FG5 K q_t q_t_links q_t_steps q_t_queue f_t_links f_t_steps f_t_queue z_t_words z_t_diagonals z_t_links y_t_steps y_t_queue) H → va_D A (w_FG5 K q_t q_t_links q_t_steps q_t_queue f_t_links f_t_steps f_t_queue z_t_words z_t_diagonals z_t_links y_t_steps y_t_queue) → va_S A s.heap H locs → W p l e (headSpec wc_FG_distance rm_FG5_distance).room s m args below meth c H locs 0 0 Q (F0 m 27 ls []) := by
    intro ih IH l2 l3 l4 y_t_steps y_t_queue H locs ls hf hl hP hD hS
    unfold b_FG5_distance_27 at hf
    refine lv_iload hx hb dFG_distance_27 (lv_at hl 3 rfl) ?_
    refine lv_aload_n hx hb dFG_distance_29 rfl (lv_at hl 0 rfl) ?_
    refine va_get (D := (dC, dI)) (ci := 6) (v := .int (nI z_t_words)) (C := RFG) (T := TFG) (N := 5) hx hb hws uwFG hown hK hP 0 rfl rfl 0 (by decide) (hws _ kf_FG_15) (fun _ h9 => h9) rfl dFG_distance_30 ?_
    refine lx_icmp_ge (tgt := 71) hx hb dFG_distance_33 (by decide) hf (fun hf => ?_) (fun hf => ?_)
    · exact hj_71 _ IH l2 y_t_steps y_t_queue _ _ _ hf (lv_sub hl [0, 1] rfl) hP hD hS
    · refine lv_iload hx hb dFG_distance_36 (lv_at hl 3 rfl) ?_
      refine lv_iload_n hx hb dFG_distance_38 rfl (lv_at hl 2 rfl) ?_
      refine lx_icmp_ge (tgt := 71) hx hb dFG_distance_39 (by decide) hf (fun hf => ?_) (fun hf => ?_)
      · exact hj_71 _ IH l2 y_t_steps y_t_queue _ _ _ hf (lv_sub hl [0, 1] rfl) hP hD hS
      · refine lv_aload_n hx hb dFG_distance_42 rfl (lv_at hl 0 rfl) ?_
        refine va_get (D := (dC, dI)) (ci := 6) (v := .ref q_t_steps) (C := RFG) (T := TFG) (N := 5) hx hb hws uwFG hown hK hP 0 rfl rfl 3 (by decide) (hws _ kf_FG_27) (fun _ h9 => h9) rfl dFG_distance_43 ?_
        refine lv_iload_n hx hb dFG_distance_46 rfl (lv_at hl 1 rfl) ?_
        refine lx_iald hx hb hK hP 2 0 rfl rfl (by decide) dFG_distance_47 hf (fun v4 _ hf => ?_)
        refine lv_iconst (v := nI 4294967295) hx hb dFG_distance_48 (by decide +kernel) ?_
        refine lx_icmp_ne (tgt := 71) hx hb dFG_distance_49 (by decide) hf (fun hf => ?_) (fun hf => ?_)
        · exact hj_71 _ IH l2 y_t_steps y_t_queue _ _ _ hf (lv_sub hl [0, 1] rfl) hP hD hS
        · refine lv_aload_n hx hb dFG_distance_52 rfl (lv_at hl 0 rfl) ?_
          refine lv_aload_n hx hb dFG_distance_53 rfl (lv_at hl 0 rfl) ?_
          refine va_get (D := (dC, dI)) (ci := 6) (v := .ref q_t_queue) (C := RFG) (T := TFG) (N := 5) hx hb hws uwFG hown hK hP 0 rfl rfl 4 (by decide) (hws _ kf_FG_30) (fun _ h9 => h9) rfl dFG_distance_54 ?_
          refine lv_iload hx hb dFG_distance_57 (lv_at hl 3 rfl) ?_
          refine lx_iald hx hb hK hP 3 0 rfl rfl (by decide) dFG_distance_59 hf (fun v5 _ hf => ?_)
          refine lv_iload_n hx hb dFG_distance_60 rfl (lv_at hl 2 rfl) ?_
          obtain ⟨q6, hq, hf⟩ := bd_s hf
          refine ct_callr (ws' := w_FG5 K q_t q_t_links q_t_steps q_t_queue f_t_links f_t_steps f_t_queue z_t_words z_t_diagonals z_t_links q6.2.1 q6.2.2) (va_runV (As := [.int (nI v5), .int (nI l3)]) (rest := []) ⟨hx, hb, hml, hown, hws⟩ (ct_FG5_findNeighbours l dC dI K q_t q_t_links q_t_steps q_t_queue f_t_links f_t_steps f_t_queue v5 l3 z_t_words z_t_diagonals z_t_links y_t_steps y_t_queue q6 hq _) ⟨cb_FG_findNeighbours hws rm_FG5_findNeighbours (hws _ km_FG_70) ⟨Nat.le_of_ble_eq_true rfl, Nat.le_of_ble_eq_true rfl⟩, hws _ ki_FG_findNeighbours, hws _ ke_FG_FG_findNeighbours_FG_findNeighbours⟩ ⟨ct_blind _ _ _, va_recv (ci := 6) (q0 := 0) (q := (RFG, TFG, 5)) hK hP rfl rfl, ct_pre (cs := (w_FG5 K q_t q_t_links q_t_steps q_t_queue f_t_links f_t_steps f_t_queue z_t_words z_t_diagonals z_t_links y_t_steps y_t_queue)) hP hD hK [0, 1, 2, 3] (by decide) rfl _⟩ rfl rfl hl.1 rfl (lv_room (Nat.le_of_ble_eq_true rfl)) dFG_distance_61 ⟨Nat.le_of_ble_eq_true rfl, Nat.le_of_ble_eq_true rfl⟩) hP hD hS hA [0, 1, 2, 3] rfl rfl rfl rfl (fun H locs hP hD hS => ?_)
          have hP : va_P (dC, dI) vwCl (w_FG5 K q_t q_t_links q_t_steps q_t_queue f_t_links f_t_steps f_t_queue z_t_words z_t_diagonals z_t_links q6.2.1 q6.2.2) H := hP
          have hD : va_D A (w_FG5 K q_t q_t_links q_t_steps q_t_queue f_t_links f_t_steps f_t_queue z_t_words z_t_diagonals z_t_links q6.2.1 q6.2.2) := hD
          refine lv_istore_n hx hb dFG_distance_64 rfl hl (by decide) rfl (fun ls hl => ?_)
          refine lx_iinc (k := 3) (d := 1) hx hb dFG_distance_65 hl rfl (by decide +kernel) (by decide) rfl (fun ls hl => ?_)
          refine lv_goto (tgt := 27) hx hb dFG_distance_68 (by decide) ?_
          have hf := fz_s hf
          have hf := fz_s hf
          have hf := fz_s hf
          have hf := fz_s hf
          exact IH l2 q6.1 (iA l4 1) q6.2.1 q6.2.2 _ _ _ hf (lv_sub hl [2, 3, 1, 0] rfl) hP hD hS
  have key : ∀ k : Nat, (∀ (l2 l3 l4 y_t_steps y_t_queue : Nat) (H : Heap) (locs : List Loc) (ls : Array Slot), fr_FG5_distance x0 x1 z_t_words z_t_diagonals z_t_links z_t_steps z_t_queue k l2 l3 l4 y_t_steps y_t_queue = some r → lv_has ls 5 [(0, .ref q_t), (2, .int (nI l2)), (3, .int (nI l3)), (4, .int (nI l4))] → va_P (dC, dI) vwCl (w_FG5 K q_t q_t_links q_t_steps q_t_queue f_t_links f_t_steps f_t_queue z_t_words z_t_diagonals z_t_links y_t_steps y_t_queue) H → va_D A (w_FG5 K q_t q_t_links q_t_steps q_t_queue f_t_links f_t_steps f_t_queue z_t_words z_t_diagonals z_t_links y_t_steps y_t_queue) → va_S A s.heap H locs → W p l e (headSpec wc_FG_distance rm_FG5_distance).room s m args below meth c H locs 0 0 Q (F0 m 27 ls [])) := by
    intro k
    induction k with
    | zero => exact fun l2 l3 l4 y_t_steps y_t_queue H locs ls hf _ _ _ _ => no_s (α := Nat × Nat × Nat) (r := r) hf
    | succ k IH => exact fun l2 l3 l4 y_t_steps y_t_queue H locs ls hf => hb_27 (fr_FG5_distance x0 x1 z_t_words z_t_diagonals z_t_links z_t_steps z_t_queue k) IH l2 l3 l4 y_t_steps y_t_queue H locs ls ((frs_FG5_distance_27 x0 x1 z_t_words z_t_diagonals z_t_links z_t_steps z_t_queue k l2 l3 l4 y_t_steps y_t_queue).symm.trans hf)
  have IH := key 1000000
  have hf : e_FG5_distance (fr_FG5_distance x0 x1 z_t_words z_t_diagonals z_t_links z_t_steps z_t_queue 1000000) x0 x1 z_t_words z_t_diagonals z_t_links z_t_steps z_t_queue = some r := hf
  unfold e_FG5_distance at hf
  generalize fr_FG5_distance x0 x1 z_t_words z_t_diagonals z_t_links z_t_steps z_t_queue 1000000 = ih at hf IH
  refine lv_aload_n hx hb dFG_distance_0 rfl (lv_at hl 0 rfl) ?_
  refine va_get (D := (dC, dI)) (ci := 6) (v := .ref q_t_steps) (C := RFG) (T := TFG) (N := 5) hx hb hws uwFG hown hK hP 0 rfl rfl 3 (by decide) (hws _ kf_FG_27) (fun _ h9 => h9) rfl dFG_distance_1 ?_
  refine lv_iconst (v := nI 4294967295) hx hb dFG_distance_4 (by decide +kernel) ?_
  obtain ⟨q1, hq, hf⟩ := bd_s hf
  refine ct_callv (ws' := w_FG5 K q_t q_t_links q_t_steps q_t_queue f_t_links f_t_steps f_t_queue z_t_words z_t_diagonals z_t_links q1 z_t_queue) (va_runS (As := [.ref q_t_steps, .int (nI 4294967295)]) (rest := []) ⟨hx, hb, hml, hown, hws⟩ (ct_AR_fill42 l dC dI K q_t_steps f_t_steps 4294967295 z_t_steps q1 hq _) ⟨cb_AR_fill hws rm_AR_fill42 (hws _ km_FG_64) ⟨Nat.le_of_ble_eq_true rfl, Nat.le_of_ble_eq_true rfl⟩, hws _ ks_AR_fill⟩ ⟨ct_blind _ _ _, ct_pre (cs := (wArr K 42 q_t_steps f_t_steps z_t_steps)) hP hD hK [2] (by decide) rfl _⟩ rfl rfl hl.1 rfl (lv_room (Nat.le_of_ble_eq_true rfl)) dFG_distance_5 ⟨Nat.le_of_ble_eq_true rfl, Nat.le_of_ble_eq_true rfl⟩) hP hD hS hA [2] rfl rfl rfl rfl (fun H locs hP hD hS => ?_)
  have hP : va_P (dC, dI) vwCl (w_FG5 K q_t q_t_links q_t_steps q_t_queue f_t_links f_t_steps f_t_queue z_t_words z_t_diagonals z_t_links q1 z_t_queue) H := hP
  have hD : va_D A (w_FG5 K q_t q_t_links q_t_steps q_t_queue f_t_links f_t_steps f_t_queue z_t_words z_t_diagonals z_t_links q1 z_t_queue) := hD
  refine lv_aload_n hx hb dFG_distance_8 rfl (lv_at hl 0 rfl) ?_
  refine va_get (D := (dC, dI)) (ci := 6) (v := .ref q_t_steps) (C := RFG) (T := TFG) (N := 5) hx hb hws uwFG hown hK hP 0 rfl rfl 3 (by decide) (hws _ kf_FG_27) (fun _ h9 => h9) rfl dFG_distance_9 ?_
  refine lv_iload_n hx hb dFG_distance_12 rfl (lv_at hl 1 rfl) ?_
  refine lv_iconst (v := nI 0) hx hb dFG_distance_13 (by decide +kernel) ?_
  refine lx_iast hx hb hK hP hD hS 2 0 rfl rfl (by decide) dFG_distance_14 hf (fun hf H locs hP hD hS => ?_)
  have hP : va_P (dC, dI) vwCl (w_FG5 K q_t q_t_links q_t_steps q_t_queue f_t_links f_t_steps f_t_queue z_t_words z_t_diagonals z_t_links (aw q1 x0 0) z_t_queue) H := hP
  have hD : va_D A (w_FG5 K q_t q_t_links q_t_steps q_t_queue f_t_links f_t_steps f_t_queue z_t_words z_t_diagonals z_t_links (aw q1 x0 0) z_t_queue) := hD
  refine lv_aload_n hx hb dFG_distance_15 rfl (lv_at hl 0 rfl) ?_
  refine va_get (D := (dC, dI)) (ci := 6) (v := .ref q_t_queue) (C := RFG) (T := TFG) (N := 5) hx hb hws uwFG hown hK hP 0 rfl rfl 4 (by decide) (hws _ kf_FG_30) (fun _ h9 => h9) rfl dFG_distance_16 ?_
  refine lv_iconst (v := nI 0) hx hb dFG_distance_19 (by decide +kernel) ?_
  refine lv_iload_n hx hb dFG_distance_20 rfl (lv_at hl 1 rfl) ?_
  refine lx_iast hx hb hK hP hD hS 3 0 rfl rfl (by decide) dFG_distance_21 hf (fun hf H locs hP hD hS => ?_)
  have hP : va_P (dC, dI) vwCl (w_FG5 K q_t q_t_links q_t_steps q_t_queue f_t_links f_t_steps f_t_queue z_t_words z_t_diagonals z_t_links (aw q1 x0 0) (aw z_t_queue 0 x0)) H := hP
  have hD : va_D A (w_FG5 K q_t q_t_links q_t_steps q_t_queue f_t_links f_t_steps f_t_queue z_t_words z_t_diagonals z_t_links (aw q1 x0 0) (aw z_t_queue 0 x0)) := hD
  refine lv_iconst (v := nI 1) hx hb dFG_distance_22 (by decide +kernel) ?_
  refine lv_istore_n hx hb dFG_distance_23 rfl hl (by decide) rfl (fun ls hl => ?_)
  refine lv_iconst (v := nI 0) hx hb dFG_distance_24 (by decide +kernel) ?_
  refine lv_istore hx hb dFG_distance_25 hl (by decide) rfl (fun ls hl => ?_)
  have hf := fz_s hf
  have hf := fz_s hf
  exact IH x1 1 0 (aw q1 x0 0) (aw z_t_queue 0 x0) _ _ _ hf (lv_sub hl [2, 4, 1, 0] rfl) hP hD hS
noncomputable abbrev w_FG6 (K : Nat → ClassId) (q_t : Nat) (q_t_links : Nat) (q_t_steps : Nat) (q_t_queue : Nat) (f_t_links : Nat → Int32) (f_t_steps : Nat → Int32) (f_t_queue : Nat → Int32) (z_t_words : Nat) (z_t_diagonals : Nat) (z_t_links : Nat) (z_t_steps : Nat) (z_t_queue : Nat) : va_W := [(q_t, .inr (6, [.int (nI z_t_words), .int (nI z_t_diagonals), .ref q_t_links, .ref q_t_steps, .ref q_t_queue])), (q_t_links, .inl (K 0, 660, .inl (ar f_t_links z_t_links))), (q_t_steps, .inl (K 0, 132, .inl (ar f_t_steps z_t_steps))), (q_t_queue, .inl (K 0, 132, .inl (ar f_t_queue z_t_queue)))]
noncomputable def b_AR_fill132_5 (ih : Nat → Nat → Nat → Nat → Option (Nat)) (x1 : Nat) (z_p0 : Nat) (l1 : Nat) (l2 : Nat) (l3 : Nat) (y_p0 : Nat) : Option (Nat) := (bif iLt l2 l3 then (bif Nat.blt l2 132 then (fz (iA l2 1) (fun u1 => fz (aw y_p0 l2 l1) (fun u2 => ih l1 u1 l3 u2))) else none) else some y_p0)
noncomputable def fr_AR_fill132 (x1 : Nat) (z_p0 : Nat) (k : Nat) : Nat → Nat → Nat → Nat → Option (Nat) := Nat.rec (motive := fun _ => Nat → Nat → Nat → Nat → Option (Nat)) (fun _ _ _ _ => none) (fun _ ih a0 a1 a2 a3 => b_AR_fill132_5 ih x1 z_p0 a0 a1 a2 a3) k
theorem frs_AR_fill132_5 (x1 : Nat) (z_p0 : Nat) (k : Nat) (l1 : Nat) (l2 : Nat) (l3 : Nat) (y_p0 : Nat) : fr_AR_fill132 x1 z_p0 (k + 1) l1 l2 l3 y_p0 = b_AR_fill132_5 (fr_AR_fill132 x1 z_p0 k) x1 z_p0 l1 l2 l3 y_p0 := rfl
noncomputable def e_AR_fill132 (ih : Nat → Nat → Nat → Nat → Option (Nat)) (x1 : Nat) (z_p0 : Nat) : Option (Nat) := (ih x1 0 132 z_p0)
noncomputable def f_AR_fill132 (x1 : Nat) (z_p0 : Nat) : Option (Nat) := e_AR_fill132 (fr_AR_fill132 x1 z_p0 1000000) x1 z_p0
abbrev rm_AR_fill132 : Room := { frames := 0, cells := 0, slots := 0, locals := 0 }
set_option maxHeartbeats 4000000 in
set_option maxRecDepth 100000 in
theorem ct_AR_fill132 (l : Launch) (dC : Nat → ClassId) (dI : Nat → Nat → Nat) (K : Nat → ClassId) (q_p0 : Nat) (f_p0 : Nat → Int32) (x1 : Nat) (z_p0 : Nat) (r : Nat) (hf : f_AR_fill132 x1 z_p0 = some r) : Ct l (dC, dI) vwCl yAR_fill wc_AR_fill rm_AR_fill132 (tyK K) [.ref q_p0, .int (nI x1)] (wArr K 132 q_p0 f_p0 z_p0) (wArr K 132 q_p0 f_p0 r) none := by
  intro sz
  refine Met.ofW (cc := cAR_fill) (maxL := 4) (ret := none) (by decide) rfl ?_
  intro p e s m args below meth c s₁ B hml hv
  obtain ⟨rfl, hsz, hP, hK, hD0⟩ := hv
  have hx := B.exec
  have hb := B.bytes
  have hr := B.returns
  have hts := atoms_spec (ws := wc_AR_fill) B.pre
  have hws : ∀ w ∈ WS, w.before _ s = true := fun w h => hts w (List.mem_cons_of_mem _ h)
  have hown : s.vm.findClass RAR = some m.cls := findClass_of_methodNamed B.named
  have hlocks := B.notSynchronized
  subst hsz
  have hD := hD0.self (sz := s.heap.size)
  generalize hAe : va_A (wArr K 132 q_p0 f_p0 z_p0) s.heap.size = A at hD ⊢
  have hA : ∀ q : Nat, s.heap.size ≤ q → A q := fun q h => by rw [← hAe]; exact Or.inr h
  have hS : va_S A s.heap s.heap [] := va_S.rf
  have hl := lv_entry ([.ref q_p0, .int (nI x1)]) (n := 4) (Nat.le_of_ble_eq_true rfl)
  rw [lg_entry_eq]
  generalize (lg_sl ([.ref q_p0, .int (nI x1)]) ++ List.replicate (4 - (lg_sl ([.ref q_p0, .int (nI x1)])).length) Slot.unset).toArray = ls at hl ⊢
  have hl : lv_has ls 4 [(0, .ref q_p0), (1, .int (nI x1))] := hl
  generalize ([.ref q_p0, .int (nI x1)] : List Value).toArray = args at hts hws ⊢
  generalize hQ : MQ below _ _ _ _ _ _ = Q
  have hb_5 : ∀ (ih : Nat → Nat → Nat → Nat → Option (Nat)) (IH : (∀ (l1 l2 l3 y_p0 : Nat) (H : Heap) (locs : List Loc) (ls : Array Slot), ih l1 l2 l3 y_p0 = some r → lv_has ls 4 [(0, .ref q_p0), (1, .int (nI l1)), (2, .int (nI l2)), (3, .int (nI l3))] → va_P (dC, dI) vwCl (wArr K 132 q_p0 f_p0 y_p0) H → va_D A (wArr K 132 q_p0 f_p0 y_p0) → va_S A s.heap H locs → W p l e (headSpec wc_AR_fill rm_AR_fill132).room s m args below meth c H locs 0 0 Q (F0 m 5 ls []))), ∀ (l1 l2 l3 y_p0 : Nat) (H : Heap) (locs : List Loc) (ls : Array Slot), b_AR_fill132_5 ih x1 z_p0 l1 l2 l3 y_p0 = some r → lv_has ls 4 [(0, .ref q_p0), (1, .int (nI l1)), (2, .int (nI l2)), (3, .int (nI l3))] → va_P (dC, dI) vwCl (wArr K 132 q_p0 f_p0 y_p0) H → va_D A (wArr K 132 q_p0 f_p0 y_p0) → va_S A s.heap H locs → W p l e (headSpec wc_AR_fill rm_AR_fill132).room s m args below meth c H locs 0 0 Q (F0 m 5 ls []) := by
    intro ih IH l1 l2 l3 y_p0 H locs ls hf hl hP hD hS
    unfold b_AR_fill132_5 at hf
    refine lv_iload_n hx hb dAR_fill_5 rfl (lv_at hl 2 rfl) ?_
    refine lv_iload_n hx hb dAR_fill_6 rfl (lv_at hl 3 rfl) ?_
    refine lx_icmp_ge (tgt := 20) hx hb dAR_fill_7 (by decide) hf (fun hf => ?_) (fun hf => ?_)
    · obtain rfl := Option.some.inj hf
      rw [← hQ]
      exact W.vret hx hb hr (fun t ht hW => ⟨⟨rfl, by rw [ht]; exact hP⟩, hS.F ht⟩) hS.2.2 dAR_fill_20
    · refine lv_aload_n hx hb dAR_fill_10 rfl (lv_at hl 0 rfl) ?_
      refine lv_iload_n hx hb dAR_fill_11 rfl (lv_at hl 2 rfl) ?_
      refine lv_iload_n hx hb dAR_fill_12 rfl (lv_at hl 1 rfl) ?_
      refine lx_iast hx hb hK hP hD hS 0 0 rfl rfl (by decide) dAR_fill_13 hf (fun hf H locs hP hD hS => ?_)
      have hP : va_P (dC, dI) vwCl (wArr K 132 q_p0 f_p0 (aw y_p0 l2 l1)) H := hP
      have hD : va_D A (wArr K 132 q_p0 f_p0 (aw y_p0 l2 l1)) := hD
      refine lx_iinc (k := 2) (d := 1) hx hb dAR_fill_14 hl rfl (by decide +kernel) (by decide) rfl (fun ls hl => ?_)
      refine lv_goto (tgt := 5) hx hb dAR_fill_17 (by decide) ?_
      have hf := fz_s hf
      have hf := fz_s hf
      exact IH l1 (iA l2 1) l3 (aw y_p0 l2 l1) _ _ _ hf (lv_sub hl [1, 2, 0, 3] rfl) hP hD hS
  have key : ∀ k : Nat, (∀ (l1 l2 l3 y_p0 : Nat) (H : Heap) (locs : List Loc) (ls : Array Slot), fr_AR_fill132 x1 z_p0 k l1 l2 l3 y_p0 = some r → lv_has ls 4 [(0, .ref q_p0), (1, .int (nI l1)), (2, .int (nI l2)), (3, .int (nI l3))] → va_P (dC, dI) vwCl (wArr K 132 q_p0 f_p0 y_p0) H → va_D A (wArr K 132 q_p0 f_p0 y_p0) → va_S A s.heap H locs → W p l e (headSpec wc_AR_fill rm_AR_fill132).room s m args below meth c H locs 0 0 Q (F0 m 5 ls [])) := by
    intro k
    induction k with
    | zero => exact fun l1 l2 l3 y_p0 H locs ls hf _ _ _ _ => no_s (α := Nat) (r := r) hf
    | succ k IH => exact fun l1 l2 l3 y_p0 H locs ls hf => hb_5 (fr_AR_fill132 x1 z_p0 k) IH l1 l2 l3 y_p0 H locs ls ((frs_AR_fill132_5 x1 z_p0 k l1 l2 l3 y_p0).symm.trans hf)
  have IH := key 1000000
  have hf : e_AR_fill132 (fr_AR_fill132 x1 z_p0 1000000) x1 z_p0 = some r := hf
  unfold e_AR_fill132 at hf
  generalize fr_AR_fill132 x1 z_p0 1000000 = ih at hf IH
  refine lv_iconst (v := nI 0) hx hb dAR_fill_0 (by decide +kernel) ?_
  refine lv_istore_n hx hb dAR_fill_1 rfl hl (by decide) rfl (fun ls hl => ?_)
  refine lv_aload_n hx hb dAR_fill_2 rfl (lv_at hl 1 rfl) ?_
  refine va_alen hx hb hK hP 0 0 rfl rfl (v := nI 132) rfl dAR_fill_3 ?_
  refine lv_istore_n hx hb dAR_fill_4 rfl hl (by decide) rfl (fun ls hl => ?_)
  exact IH x1 0 132 z_p0 _ _ _ hf (lv_sub hl [2, 3, 1, 0] rfl) hP hD hS
noncomputable def j_FG6_findNeighbours_67 (ih : Nat → Nat → Nat → Nat → Nat → Option (Nat × Nat × Nat)) (x0 : Nat) (x1 : Nat) (z_t_diagonals : Nat) (z_t_links : Nat) (z_t_steps : Nat) (z_t_queue : Nat) (l1 : Nat) (l3 : Nat) (l4 : Nat) (y_t_steps : Nat) (y_t_queue : Nat) : Option (Nat × Nat × Nat) := (fz (iA l4 1) (fun u7 => ih l1 l3 u7 y_t_steps y_t_queue))
noncomputable def b_FG6_findNeighbours_5 (ih : Nat → Nat → Nat → Nat → Nat → Option (Nat × Nat × Nat)) (x0 : Nat) (x1 : Nat) (z_t_diagonals : Nat) (z_t_links : Nat) (z_t_steps : Nat) (z_t_queue : Nat) (l1 : Nat) (l3 : Nat) (l4 : Nat) (y_t_steps : Nat) (y_t_queue : Nat) : Option (Nat × Nat × Nat) := (bif iLt l4 z_t_diagonals then (rd z_t_links 660 (iA (iM l1 z_t_diagonals) l4) (fun v1 => (rd y_t_steps 132 v1 (fun v2 => (bif iEq v2 4294967295 then (rd y_t_steps 132 l1 (fun v3 => (bif Nat.blt v1 132 then (bif Nat.blt l3 132 then (fz (iA l3 1) (fun u4 => fz (aw y_t_steps v1 (iA v3 1)) (fun u5 => fz (aw y_t_queue l3 v1) (fun u6 => j_FG6_findNeighbours_67 ih x0 x1 z_t_diagonals z_t_links z_t_steps z_t_queue l1 u4 l4 u5 u6)))) else none) else none))) else (j_FG6_findNeighbours_67 ih x0 x1 z_t_diagonals z_t_links z_t_steps z_t_queue l1 l3 l4 y_t_steps y_t_queue)))))) else some (l3, y_t_steps, y_t_queue))
noncomputable def fr_FG6_findNeighbours (x0 : Nat) (x1 : Nat) (z_t_diagonals : Nat) (z_t_links : Nat) (z_t_steps : Nat) (z_t_queue : Nat) (k : Nat) : Nat → Nat → Nat → Nat → Nat → Option (Nat × Nat × Nat) := Nat.rec (motive := fun _ => Nat → Nat → Nat → Nat → Nat → Option (Nat × Nat × Nat)) (fun _ _ _ _ _ => none) (fun _ ih a0 a1 a2 a3 a4 => b_FG6_findNeighbours_5 ih x0 x1 z_t_diagonals z_t_links z_t_steps z_t_queue a0 a1 a2 a3 a4) k
theorem frs_FG6_findNeighbours_5 (x0 : Nat) (x1 : Nat) (z_t_diagonals : Nat) (z_t_links : Nat) (z_t_steps : Nat) (z_t_queue : Nat) (k : Nat) (l1 : Nat) (l3 : Nat) (l4 : Nat) (y_t_steps : Nat) (y_t_queue : Nat) : fr_FG6_findNeighbours x0 x1 z_t_diagonals z_t_links z_t_steps z_t_queue (k + 1) l1 l3 l4 y_t_steps y_t_queue = b_FG6_findNeighbours_5 (fr_FG6_findNeighbours x0 x1 z_t_diagonals z_t_links z_t_steps z_t_queue k) x0 x1 z_t_diagonals z_t_links z_t_steps z_t_queue l1 l3 l4 y_t_steps y_t_queue := rfl
noncomputable def e_FG6_findNeighbours (ih : Nat → Nat → Nat → Nat → Nat → Option (Nat × Nat × Nat)) (x0 : Nat) (x1 : Nat) (z_t_diagonals : Nat) (z_t_links : Nat) (z_t_steps : Nat) (z_t_queue : Nat) : Option (Nat × Nat × Nat) := (ih x0 x1 0 z_t_steps z_t_queue)
noncomputable def f_FG6_findNeighbours (x0 : Nat) (x1 : Nat) (z_t_diagonals : Nat) (z_t_links : Nat) (z_t_steps : Nat) (z_t_queue : Nat) : Option (Nat × Nat × Nat) := e_FG6_findNeighbours (fr_FG6_findNeighbours x0 x1 z_t_diagonals z_t_links z_t_steps z_t_queue 1000000) x0 x1 z_t_diagonals z_t_links z_t_steps z_t_queue
abbrev rm_FG6_findNeighbours : Room := { frames := 0, cells := 0, slots := 0, locals := 0 }
set_option maxHeartbeats 4000000 in
set_option maxRecDepth 100000 in
theorem ct_FG6_findNeighbours (l : Launch) (dC : Nat → ClassId) (dI : Nat → Nat → Nat) (K : Nat → ClassId) (q_t : Nat) (q_t_links : Nat) (q_t_steps : Nat) (q_t_queue : Nat) (f_t_links : Nat → Int32) (f_t_steps : Nat → Int32) (f_t_queue : Nat → Int32) (x0 : Nat) (x1 : Nat) (z_t_words : Nat) (z_t_diagonals : Nat) (z_t_links : Nat) (z_t_steps : Nat) (z_t_queue : Nat) (r : Nat × Nat × Nat) (hf : f_FG6_findNeighbours x0 x1 z_t_diagonals z_t_links z_t_steps z_t_queue = some r) : Ct l (dC, dI) vwCl yFG_findNeighbours wc_FG_findNeighbours rm_FG6_findNeighbours (tyK K) [.ref q_t, .int (nI x0), .int (nI x1)] (w_FG6 K q_t q_t_links q_t_steps q_t_queue f_t_links f_t_steps f_t_queue z_t_words z_t_diagonals z_t_links z_t_steps z_t_queue) (w_FG6 K q_t q_t_links q_t_steps q_t_queue f_t_links f_t_steps f_t_queue z_t_words z_t_diagonals z_t_links r.2.1 r.2.2) (some (.int (nI r.1))) := by
  intro sz
  refine Met.ofW (cc := cFG_findNeighbours) (maxL := 6) (ret := (some .int)) (by decide) rfl ?_
  intro p e s m args below meth c s₁ B hml hv
  obtain ⟨rfl, hsz, hP, hK, hD0⟩ := hv
  have hx := B.exec
  have hb := B.bytes
  have hr := B.returns
  have hts := atoms_spec (ws := wc_FG_findNeighbours) B.pre
  have hws : ∀ w ∈ WS, w.before _ s = true := fun w h => hts w (List.mem_cons_of_mem _ h)
  have hown : s.vm.findClass RFG = some m.cls := findClass_of_methodNamed B.named
  have hlocks := B.notSynchronized
  subst hsz
  have hD := hD0.self (sz := s.heap.size)
  generalize hAe : va_A (w_FG6 K q_t q_t_links q_t_steps q_t_queue f_t_links f_t_steps f_t_queue z_t_words z_t_diagonals z_t_links z_t_steps z_t_queue) s.heap.size = A at hD ⊢
  have hA : ∀ q : Nat, s.heap.size ≤ q → A q := fun q h => by rw [← hAe]; exact Or.inr h
  have hS : va_S A s.heap s.heap [] := va_S.rf
  have hl := lv_entry ([.ref q_t, .int (nI x0), .int (nI x1)]) (n := 6) (Nat.le_of_ble_eq_true rfl)
  rw [lg_entry_eq]
  generalize (lg_sl ([.ref q_t, .int (nI x0), .int (nI x1)]) ++ List.replicate (6 - (lg_sl ([.ref q_t, .int (nI x0), .int (nI x1)])).length) Slot.unset).toArray = ls at hl ⊢
  have hl : lv_has ls 6 [(0, .ref q_t), (1, .int (nI x0)), (2, .int (nI x1))] := hl
  generalize ([.ref q_t, .int (nI x0), .int (nI x1)] : List Value).toArray = args at hts hws ⊢
  generalize hQ : MQ below _ _ _ _ _ _ = Q
  have hj_67 : ∀ (ih : Nat → Nat → Nat → Nat → Nat → Option (Nat × Nat × Nat)) (IH : (∀ (l1 l3 l4 y_t_steps y_t_queue : Nat) (H : Heap) (locs : List Loc) (ls : Array Slot), ih l1 l3 l4 y_t_steps y_t_queue = some r → lv_has ls 6 [(0, .ref q_t), (1, .int (nI l1)), (3, .int (nI l3)), (4, .int (nI l4))] → va_P (dC, dI) vwCl (w_FG6 K q_t q_t_links q_t_steps q_t_queue f_t_links f_t_steps f_t_queue z_t_words z_t_diagonals z_t_links y_t_steps y_t_queue) H → va_D A (w_FG6 K q_t q_t_links q_t_steps q_t_queue f_t_links f_t_steps f_t_queue z_t_words z_t_diagonals z_t_links y_t_steps y_t_queue) → va_S A s.heap H locs → W p l e (headSpec wc_FG_findNeighbours rm_FG6_findNeighbours).room s m args below meth c H locs 0 0 Q (F0 m 5 ls []))), ∀ (l1 l3 l4 y_t_steps y_t_queue : Nat) (H : Heap) (locs : List Loc) (ls : Array Slot), j_FG6_findNeighbours_67 ih x0 x1 z_t_diagonals z_t_links z_t_steps z_t_queue l1 l3 l4 y_t_steps y_t_queue = some r → lv_has ls 6 [(0, .ref q_t), (1, .int (nI l1)), (3, .int (nI l3)), (4, .int (nI l4))] → va_P (dC, dI) vwCl (w_FG6 K q_t q_t_links q_t_steps q_t_queue f_t_links f_t_steps f_t_queue z_t_words z_t_diagonals z_t_links y_t_steps y_t_queue) H → va_D A (w_FG6 K q_t q_t_links q_t_steps q_t_queue f_t_links f_t_steps f_t_queue z_t_words z_t_diagonals z_t_links y_t_steps y_t_queue) → va_S A s.heap H locs → W p l e (headSpec wc_FG_findNeighbours rm_FG6_findNeighbours).room s m args below meth c H locs 0 0 Q (F0 m 67 ls []) := by
    intro ih IH l1 l3 l4 y_t_steps y_t_queue H locs ls hf hl hP hD hS
    unfold j_FG6_findNeighbours_67 at hf
    refine lx_iinc (k := 3) (d := 1) hx hb dFG_findNeighbours_67 hl rfl (by decide +kernel) (by decide) rfl (fun ls hl => ?_)
    refine lv_goto (tgt := 5) hx hb dFG_findNeighbours_70 (by decide) ?_
    have hf := fz_s hf
    exact IH l1 l3 (iA l4 1) y_t_steps y_t_queue _ _ _ hf (lv_sub hl [1, 2, 3, 0] rfl) hP hD hS
  have hb_5 : ∀ (ih : Nat → Nat → Nat → Nat → Nat → Option (Nat × Nat × Nat)) (IH : (∀ (l1 l3 l4 y_t_steps y_t_queue : Nat) (H : Heap) (locs : List Loc) (ls : Array Slot), ih l1 l3 l4 y_t_steps y_t_queue = some r → lv_has ls 6 [(0, .ref q_t), (1, .int (nI l1)), (3, .int (nI l3)), (4, .int (nI l4))] → va_P (dC, dI) vwCl (w_FG6 K q_t q_t_links q_t_steps q_t_queue f_t_links f_t_steps f_t_queue z_t_words z_t_diagonals z_t_links y_t_steps y_t_queue) H → va_D A (w_FG6 K q_t q_t_links q_t_steps q_t_queue f_t_links f_t_steps f_t_queue z_t_words z_t_diagonals z_t_links y_t_steps y_t_queue) → va_S A s.heap H locs → W p l e (headSpec wc_FG_findNeighbours rm_FG6_findNeighbours).room s m args below meth c H locs 0 0 Q (F0 m 5 ls []))), ∀ (l1 l3 l4 y_t_steps y_t_queue : Nat) (H : Heap) (locs : List Loc) (ls : Array Slot), b_FG6_findNeighbours_5 ih x0 x1 z_t_diagonals z_t_links z_t_steps z_t_queue l1 l3 l4 y_t_steps y_t_queue = some r → lv_has ls 6 [(0, .ref q_t), (1, .int (nI l1)), (3, .int (nI l3)), (4, .int (nI l4))] → va_P (dC, dI) vwCl (w_FG6 K q_t q_t_links q_t_steps q_t_queue f_t_links f_t_steps f_t_queue z_t_words z_t_diagonals z_t_links y_t_steps y_t_queue) H → va_D A (w_FG6 K q_t q_t_links q_t_steps q_t_queue f_t_links f_t_steps f_t_queue z_t_words z_t_diagonals z_t_links y_t_steps y_t_queue) → va_S A s.heap H locs → W p l e (headSpec wc_FG_findNeighbours rm_FG6_findNeighbours).room s m args below meth c H locs 0 0 Q (F0 m 5 ls []) := by
    intro ih IH l1 l3 l4 y_t_steps y_t_queue H locs ls hf hl hP hD hS
    unfold b_FG6_findNeighbours_5 at hf
    refine lv_iload hx hb dFG_findNeighbours_5 (lv_at hl 3 rfl) ?_
    refine lv_aload_n hx hb dFG_findNeighbours_7 rfl (lv_at hl 0 rfl) ?_
    refine va_get (D := (dC, dI)) (ci := 6) (v := .int (nI z_t_diagonals)) (C := RFG) (T := TFG) (N := 5) hx hb hws uwFG hown hK hP 0 rfl rfl 1 (by decide) (hws _ kf_FG_20) (fun _ h9 => h9) rfl dFG_findNeighbours_8 ?_
    refine lx_icmp_ge (tgt := 73) hx hb dFG_findNeighbours_11 (by decide) hf (fun hf => ?_) (fun hf => ?_)
    · refine lv_iload_n hx hb dFG_findNeighbours_73 rfl (lv_at hl 2 rfl) ?_
      obtain rfl := Option.some.inj hf
      rw [← hQ]
      exact W.iret (v := nI l3) hx hb hr (fun t ht hW => ⟨⟨rfl, by rw [ht]; exact hP⟩, hS.F ht⟩) hS.2.2 dFG_findNeighbours_74
    · refine lv_aload_n hx hb dFG_findNeighbours_14 rfl (lv_at hl 0 rfl) ?_
      refine va_get (D := (dC, dI)) (ci := 6) (v := .ref q_t_links) (C := RFG) (T := TFG) (N := 5) hx hb hws uwFG hown hK hP 0 rfl rfl 2 (by decide) (hws _ kf_FG_23) (fun _ h9 => h9) rfl dFG_findNeighbours_15 ?_
      refine lv_iload_n hx hb dFG_findNeighbours_18 rfl (lv_at hl 1 rfl) ?_
      refine lv_aload_n hx hb dFG_findNeighbours_19 rfl (lv_at hl 0 rfl) ?_
      refine va_get (D := (dC, dI)) (ci := 6) (v := .int (nI z_t_diagonals)) (C := RFG) (T := TFG) (N := 5) hx hb hws uwFG hown hK hP 0 rfl rfl 1 (by decide) (hws _ kf_FG_20) (fun _ h9 => h9) rfl dFG_findNeighbours_20 ?_
      refine lx_imul hx hb dFG_findNeighbours_23 ?_
      refine lv_iload hx hb dFG_findNeighbours_24 (lv_at hl 3 rfl) ?_
      refine lx_iadd hx hb dFG_findNeighbours_26 ?_
      refine lx_iald hx hb hK hP 1 0 rfl rfl (by decide) dFG_findNeighbours_27 hf (fun v1 _ hf => ?_)
      refine lv_istore hx hb dFG_findNeighbours_28 hl (by decide) rfl (fun ls hl => ?_)
      refine lv_aload_n hx hb dFG_findNeighbours_30 rfl (lv_at hl 1 rfl) ?_
      refine va_get (D := (dC, dI)) (ci := 6) (v := .ref q_t_steps) (C := RFG) (T := TFG) (N := 5) hx hb hws uwFG hown hK hP 0 rfl rfl 3 (by decide) (hws _ kf_FG_27) (fun _ h9 => h9) rfl dFG_findNeighbours_31 ?_
      refine lv_iload hx hb dFG_findNeighbours_34 (lv_at hl 0 rfl) ?_
      refine lx_iald hx hb hK hP 2 0 rfl rfl (by decide) dFG_findNeighbours_36 hf (fun v2 _ hf => ?_)
      refine lv_iconst (v := nI 4294967295) hx hb dFG_findNeighbours_37 (by decide +kernel) ?_
      refine lx_icmp_ne (tgt := 67) hx hb dFG_findNeighbours_38 (by decide) hf (fun hf => ?_) (fun hf => ?_)
      · exact hj_67 _ IH l1 l3 l4 y_t_steps y_t_queue _ _ _ hf (lv_sub hl [1, 2, 3, 4] rfl) hP hD hS
      · refine lv_aload_n hx hb dFG_findNeighbours_41 rfl (lv_at hl 1 rfl) ?_
        refine va_get (D := (dC, dI)) (ci := 6) (v := .ref q_t_steps) (C := RFG) (T := TFG) (N := 5) hx hb hws uwFG hown hK hP 0 rfl rfl 3 (by decide) (hws _ kf_FG_27) (fun _ h9 => h9) rfl dFG_findNeighbours_42 ?_
        refine lv_iload hx hb dFG_findNeighbours_45 (lv_at hl 0 rfl) ?_
        refine lv_aload_n hx hb dFG_findNeighbours_47 rfl (lv_at hl 1 rfl) ?_
        refine va_get (D := (dC, dI)) (ci := 6) (v := .ref q_t_steps) (C := RFG) (T := TFG) (N := 5) hx hb hws uwFG hown hK hP 0 rfl rfl 3 (by decide) (hws _ kf_FG_27) (fun _ h9 => h9) rfl dFG_findNeighbours_48 ?_
        refine lv_iload_n hx hb dFG_findNeighbours_51 rfl (lv_at hl 2 rfl) ?_
        refine lx_iald hx hb hK hP 2 0 rfl rfl (by decide) dFG_findNeighbours_52 hf (fun v3 _ hf => ?_)
        refine lv_iconst (v := nI 1) hx hb dFG_findNeighbours_53 (by decide +kernel) ?_
        refine lx_iadd hx hb dFG_findNeighbours_54 ?_
        refine lx_iast hx hb hK hP hD hS 2 0 rfl rfl (by decide) dFG_findNeighbours_55 hf (fun hf H locs hP hD hS => ?_)
        have hP : va_P (dC, dI) vwCl (w_FG6 K q_t q_t_links q_t_steps q_t_queue f_t_links f_t_steps f_t_queue z_t_words z_t_diagonals z_t_links (aw y_t_steps v1 (iA v3 1)) y_t_queue) H := hP
        have hD : va_D A (w_FG6 K q_t q_t_links q_t_steps q_t_queue f_t_links f_t_steps f_t_queue z_t_words z_t_diagonals z_t_links (aw y_t_steps v1 (iA v3 1)) y_t_queue) := hD
        refine lv_aload_n hx hb dFG_findNeighbours_56 rfl (lv_at hl 1 rfl) ?_
        refine va_get (D := (dC, dI)) (ci := 6) (v := .ref q_t_queue) (C := RFG) (T := TFG) (N := 5) hx hb hws uwFG hown hK hP 0 rfl rfl 4 (by decide) (hws _ kf_FG_30) (fun _ h9 => h9) rfl dFG_findNeighbours_57 ?_
        refine lv_iload_n hx hb dFG_findNeighbours_60 rfl (lv_at hl 3 rfl) ?_
        refine lv_iload hx hb dFG_findNeighbours_61 (lv_at hl 0 rfl) ?_
        refine lx_iast hx hb hK hP hD hS 3 0 rfl rfl (by decide) dFG_findNeighbours_63 hf (fun hf H locs hP hD hS => ?_)
        have hP : va_P (dC, dI) vwCl (w_FG6 K q_t q_t_links q_t_steps q_t_queue f_t_links f_t_steps f_t_queue z_t_words z_t_diagonals z_t_links (aw y_t_steps v1 (iA v3 1)) (aw y_t_queue l3 v1)) H := hP
        have hD : va_D A (w_FG6 K q_t q_t_links q_t_steps q_t_queue f_t_links f_t_steps f_t_queue z_t_words z_t_diagonals z_t_links (aw y_t_steps v1 (iA v3 1)) (aw y_t_queue l3 v1)) := hD
        refine lx_iinc (k := 3) (d := 1) hx hb dFG_findNeighbours_64 hl rfl (by decide +kernel) (by decide) rfl (fun ls hl => ?_)
        have hf := fz_s hf
        have hf := fz_s hf
        have hf := fz_s hf
        exact hj_67 _ IH l1 (iA l3 1) l4 (aw y_t_steps v1 (iA v3 1)) (aw y_t_queue l3 v1) _ _ _ hf (lv_sub hl [2, 3, 0, 4] rfl) hP hD hS
  have key : ∀ k : Nat, (∀ (l1 l3 l4 y_t_steps y_t_queue : Nat) (H : Heap) (locs : List Loc) (ls : Array Slot), fr_FG6_findNeighbours x0 x1 z_t_diagonals z_t_links z_t_steps z_t_queue k l1 l3 l4 y_t_steps y_t_queue = some r → lv_has ls 6 [(0, .ref q_t), (1, .int (nI l1)), (3, .int (nI l3)), (4, .int (nI l4))] → va_P (dC, dI) vwCl (w_FG6 K q_t q_t_links q_t_steps q_t_queue f_t_links f_t_steps f_t_queue z_t_words z_t_diagonals z_t_links y_t_steps y_t_queue) H → va_D A (w_FG6 K q_t q_t_links q_t_steps q_t_queue f_t_links f_t_steps f_t_queue z_t_words z_t_diagonals z_t_links y_t_steps y_t_queue) → va_S A s.heap H locs → W p l e (headSpec wc_FG_findNeighbours rm_FG6_findNeighbours).room s m args below meth c H locs 0 0 Q (F0 m 5 ls [])) := by
    intro k
    induction k with
    | zero => exact fun l1 l3 l4 y_t_steps y_t_queue H locs ls hf _ _ _ _ => no_s (α := Nat × Nat × Nat) (r := r) hf
    | succ k IH => exact fun l1 l3 l4 y_t_steps y_t_queue H locs ls hf => hb_5 (fr_FG6_findNeighbours x0 x1 z_t_diagonals z_t_links z_t_steps z_t_queue k) IH l1 l3 l4 y_t_steps y_t_queue H locs ls ((frs_FG6_findNeighbours_5 x0 x1 z_t_diagonals z_t_links z_t_steps z_t_queue k l1 l3 l4 y_t_steps y_t_queue).symm.trans hf)
  have IH := key 1000000
  have hf : e_FG6_findNeighbours (fr_FG6_findNeighbours x0 x1 z_t_diagonals z_t_links z_t_steps z_t_queue 1000000) x0 x1 z_t_diagonals z_t_links z_t_steps z_t_queue = some r := hf
  unfold e_FG6_findNeighbours at hf
  generalize fr_FG6_findNeighbours x0 x1 z_t_diagonals z_t_links z_t_steps z_t_queue 1000000 = ih at hf IH
  refine lv_iload_n hx hb dFG_findNeighbours_0 rfl (lv_at hl 2 rfl) ?_
  refine lv_istore_n hx hb dFG_findNeighbours_1 rfl hl (by decide) rfl (fun ls hl => ?_)
  refine lv_iconst (v := nI 0) hx hb dFG_findNeighbours_2 (by decide +kernel) ?_
  refine lv_istore hx hb dFG_findNeighbours_3 hl (by decide) rfl (fun ls hl => ?_)
  exact IH x0 x1 0 z_t_steps z_t_queue _ _ _ hf (lv_sub hl [2, 3, 1, 0] rfl) hP hD hS
noncomputable def j_FG6_distance_71 (ih : Nat → Nat → Nat → Nat → Nat → Option (Nat × Nat × Nat)) (x0 : Nat) (x1 : Nat) (z_t_words : Nat) (z_t_diagonals : Nat) (z_t_links : Nat) (z_t_steps : Nat) (z_t_queue : Nat) (l2 : Nat) (y_t_steps : Nat) (y_t_queue : Nat) : Option (Nat × Nat × Nat) := (rd y_t_steps 132 l2 (fun v11 => some (v11, y_t_steps, y_t_queue)))
noncomputable def b_FG6_distance_27 (ih : Nat → Nat → Nat → Nat → Nat → Option (Nat × Nat × Nat)) (x0 : Nat) (x1 : Nat) (z_t_words : Nat) (z_t_diagonals : Nat) (z_t_links : Nat) (z_t_steps : Nat) (z_t_queue : Nat) (l2 : Nat) (l3 : Nat) (l4 : Nat) (y_t_steps : Nat) (y_t_queue : Nat) : Option (Nat × Nat × Nat) := (bif iLt l4 z_t_words then (bif iLt l4 l3 then (rd y_t_steps 132 l2 (fun v4 => (bif iEq v4 4294967295 then (rd y_t_queue 132 l4 (fun v5 => (Option.bind (f_FG6_findNeighbours v5 l3 z_t_diagonals z_t_links y_t_steps y_t_queue) (fun q6 => (fz q6.1 (fun u7 => fz (iA l4 1) (fun u8 => fz q6.2.1 (fun u9 => fz q6.2.2 (fun u10 => ih l2 u7 u8 u9 u10))))))))) else (j_FG6_distance_71 ih x0 x1 z_t_words z_t_diagonals z_t_links z_t_steps z_t_queue l2 y_t_steps y_t_queue)))) else (j_FG6_distance_71 ih x0 x1 z_t_words z_t_diagonals z_t_links z_t_steps z_t_queue l2 y_t_steps y_t_queue)) else (j_FG6_distance_71 ih x0 x1 z_t_words z_t_diagonals z_t_links z_t_steps z_t_queue l2 y_t_steps y_t_queue))
noncomputable def fr_FG6_distance (x0 : Nat) (x1 : Nat) (z_t_words : Nat) (z_t_diagonals : Nat) (z_t_links : Nat) (z_t_steps : Nat) (z_t_queue : Nat) (k : Nat) : Nat → Nat → Nat → Nat → Nat → Option (Nat × Nat × Nat) := Nat.rec (motive := fun _ => Nat → Nat → Nat → Nat → Nat → Option (Nat × Nat × Nat)) (fun _ _ _ _ _ => none) (fun _ ih a0 a1 a2 a3 a4 => b_FG6_distance_27 ih x0 x1 z_t_words z_t_diagonals z_t_links z_t_steps z_t_queue a0 a1 a2 a3 a4) k
theorem frs_FG6_distance_27 (x0 : Nat) (x1 : Nat) (z_t_words : Nat) (z_t_diagonals : Nat) (z_t_links : Nat) (z_t_steps : Nat) (z_t_queue : Nat) (k : Nat) (l2 : Nat) (l3 : Nat) (l4 : Nat) (y_t_steps : Nat) (y_t_queue : Nat) : fr_FG6_distance x0 x1 z_t_words z_t_diagonals z_t_links z_t_steps z_t_queue (k + 1) l2 l3 l4 y_t_steps y_t_queue = b_FG6_distance_27 (fr_FG6_distance x0 x1 z_t_words z_t_diagonals z_t_links z_t_steps z_t_queue k) x0 x1 z_t_words z_t_diagonals z_t_links z_t_steps z_t_queue l2 l3 l4 y_t_steps y_t_queue := rfl
noncomputable def e_FG6_distance (ih : Nat → Nat → Nat → Nat → Nat → Option (Nat × Nat × Nat)) (x0 : Nat) (x1 : Nat) (z_t_words : Nat) (z_t_diagonals : Nat) (z_t_links : Nat) (z_t_steps : Nat) (z_t_queue : Nat) : Option (Nat × Nat × Nat) := (Option.bind (f_AR_fill132 4294967295 z_t_steps) (fun q1 => (bif Nat.blt x0 132 then (bif Nat.blt 0 132 then (fz (aw q1 x0 0) (fun u2 => fz (aw z_t_queue 0 x0) (fun u3 => ih x1 1 0 u2 u3))) else none) else none)))
noncomputable def f_FG6_distance (x0 : Nat) (x1 : Nat) (z_t_words : Nat) (z_t_diagonals : Nat) (z_t_links : Nat) (z_t_steps : Nat) (z_t_queue : Nat) : Option (Nat × Nat × Nat) := e_FG6_distance (fr_FG6_distance x0 x1 z_t_words z_t_diagonals z_t_links z_t_steps z_t_queue 1000000) x0 x1 z_t_words z_t_diagonals z_t_links z_t_steps z_t_queue
abbrev rm_FG6_distance : Room := { frames := 1, cells := 0, slots := 0, locals := 25 }
set_option maxHeartbeats 4000000 in
set_option maxRecDepth 100000 in
theorem ct_FG6_distance (l : Launch) (dC : Nat → ClassId) (dI : Nat → Nat → Nat) (K : Nat → ClassId) (q_t : Nat) (q_t_links : Nat) (q_t_steps : Nat) (q_t_queue : Nat) (f_t_links : Nat → Int32) (f_t_steps : Nat → Int32) (f_t_queue : Nat → Int32) (x0 : Nat) (x1 : Nat) (z_t_words : Nat) (z_t_diagonals : Nat) (z_t_links : Nat) (z_t_steps : Nat) (z_t_queue : Nat) (r : Nat × Nat × Nat) (hf : f_FG6_distance x0 x1 z_t_words z_t_diagonals z_t_links z_t_steps z_t_queue = some r) : Ct l (dC, dI) vwCl yFG_distance wc_FG_distance rm_FG6_distance (tyK K) [.ref q_t, .int (nI x0), .int (nI x1)] (w_FG6 K q_t q_t_links q_t_steps q_t_queue f_t_links f_t_steps f_t_queue z_t_words z_t_diagonals z_t_links z_t_steps z_t_queue) (w_FG6 K q_t q_t_links q_t_steps q_t_queue f_t_links f_t_steps f_t_queue z_t_words z_t_diagonals z_t_links r.2.1 r.2.2) (some (.int (nI r.1))) := by
  intro sz
  refine Met.ofW (cc := cFG_distance) (maxL := 5) (ret := (some .int)) (by decide) rfl ?_
  intro p e s m args below meth c s₁ B hml hv
  obtain ⟨rfl, hsz, hP, hK, hD0⟩ := hv
  have hx := B.exec
  have hb := B.bytes
  have hr := B.returns
  have hts := atoms_spec (ws := wc_FG_distance) B.pre
  have hws : ∀ w ∈ WS, w.before _ s = true := fun w h => hts w (List.mem_cons_of_mem _ h)
  have hown : s.vm.findClass RFG = some m.cls := findClass_of_methodNamed B.named
  have hlocks := B.notSynchronized
  subst hsz
  have hD := hD0.self (sz := s.heap.size)
  generalize hAe : va_A (w_FG6 K q_t q_t_links q_t_steps q_t_queue f_t_links f_t_steps f_t_queue z_t_words z_t_diagonals z_t_links z_t_steps z_t_queue) s.heap.size = A at hD ⊢
  have hA : ∀ q : Nat, s.heap.size ≤ q → A q := fun q h => by rw [← hAe]; exact Or.inr h
  have hS : va_S A s.heap s.heap [] := va_S.rf
  have hl := lv_entry ([.ref q_t, .int (nI x0), .int (nI x1)]) (n := 5) (Nat.le_of_ble_eq_true rfl)
  rw [lg_entry_eq]
  generalize (lg_sl ([.ref q_t, .int (nI x0), .int (nI x1)]) ++ List.replicate (5 - (lg_sl ([.ref q_t, .int (nI x0), .int (nI x1)])).length) Slot.unset).toArray = ls at hl ⊢
  have hl : lv_has ls 5 [(0, .ref q_t), (1, .int (nI x0)), (2, .int (nI x1))] := hl
  generalize ([.ref q_t, .int (nI x0), .int (nI x1)] : List Value).toArray = args at hts hws ⊢
  generalize hQ : MQ below _ _ _ _ _ _ = Q
  have hj_71 : ∀ (ih : Nat → Nat → Nat → Nat → Nat → Option (Nat × Nat × Nat)) (IH : (∀ (l2 l3 l4 y_t_steps y_t_queue : Nat) (H : Heap) (locs : List Loc) (ls : Array Slot), ih l2 l3 l4 y_t_steps y_t_queue = some r → lv_has ls 5 [(0, .ref q_t), (2, .int (nI l2)), (3, .int (nI l3)), (4, .int (nI l4))] → va_P (dC, dI) vwCl (w_FG6 K q_t q_t_links q_t_steps q_t_queue f_t_links f_t_steps f_t_queue z_t_words z_t_diagonals z_t_links y_t_steps y_t_queue) H → va_D A (w_FG6 K q_t q_t_links q_t_steps q_t_queue f_t_links f_t_steps f_t_queue z_t_words z_t_diagonals z_t_links y_t_steps y_t_queue) → va_S A s.heap H locs → W p l e (headSpec wc_FG_distance rm_FG6_distance).room s m args below meth c H locs 0 0 Q (F0 m 27 ls []))), ∀ (l2 y_t_steps y_t_queue : Nat) (H : Heap) (locs : List Loc) (ls : Array Slot), j_FG6_distance_71 ih x0 x1 z_t_words z_t_diagonals z_t_links z_t_steps z_t_queue l2 y_t_steps y_t_queue = some r → lv_has ls 5 [(0, .ref q_t), (2, .int (nI l2))] → va_P (dC, dI) vwCl (w_FG6 K q_t q_t_links q_t_steps q_t_queue f_t_links f_t_steps f_t_queue z_t_words z_t_diagonals z_t_links y_t_steps y_t_queue) H → va_D A (w_FG6 K q_t q_t_links q_t_steps q_t_queue f_t_links f_t_steps f_t_queue z_t_words z_t_diagonals z_t_links y_t_steps y_t_queue) → va_S A s.heap H locs → W p l e (headSpec wc_FG_distance rm_FG6_distance).room s m args below meth c H locs 0 0 Q (F0 m 71 ls []) := by
    intro ih IH l2 y_t_steps y_t_queue H locs ls hf hl hP hD hS
    unfold j_FG6_distance_71 at hf
    refine lv_aload_n hx hb dFG_distance_71 rfl (lv_at hl 0 rfl) ?_
    refine va_get (D := (dC, dI)) (ci := 6) (v := .ref q_t_steps) (C := RFG) (T := TFG) (N := 5) hx hb hws uwFG hown hK hP 0 rfl rfl 3 (by decide) (hws _ kf_FG_27) (fun _ h9 => h9) rfl dFG_distance_72 ?_
    refine lv_iload_n hx hb dFG_distance_75 rfl (lv_at hl 1 rfl) ?_
    refine lx_iald hx hb hK hP 2 0 rfl rfl (by decide) dFG_distance_76 hf (fun v11 _ hf => ?_)
    obtain rfl := Option.some.inj hf
    rw [← hQ]
    exact W.iret (v := nI v11) hx hb hr (fun t ht hW => ⟨⟨rfl, by rw [ht]; exact hP⟩, hS.F ht⟩) hS.2.2 dFG_distance_77
  have hb_27 : ∀ (ih : Nat → Nat → Nat → Nat → Nat → Option (Nat × Nat × Nat)) (IH : (∀ (l2 l3 l4 y_t_steps y_t_queue : Nat) (H : Heap) (locs : List Loc) (ls : Array Slot), ih l2 l3 l4 y_t_steps y_t_queue = some r → lv_has ls 5 [(0, .ref q_t), (2, .int (nI l2)), (3, .int (nI l3)), (4, .int (nI l4))] → va_P (dC, dI) vwCl (w_FG6 K q_t q_t_links q_t_steps q_t_queue f_t_links f_t_steps f_t_queue z_t_words z_t_diagonals z_t_links y_t_steps y_t_queue) H → va_D A (w_FG6 K q_t q_t_links q_t_steps q_t_queue f_t_links f_t_steps f_t_queue z_t_words z_t_diagonals z_t_links y_t_steps y_t_queue) → va_S A s.heap H locs → W p l e (headSpec wc_FG_distance rm_FG6_distance).room s m args below meth c H locs 0 0 Q (F0 m 27 ls []))), ∀ (l2 l3 l4 y_t_steps y_t_queue : Nat) (H : Heap) (locs : List Loc) (ls : Array Slot), b_FG6_distance_27 ih x0 x1 z_t_words z_t_diagonals z_t_links z_t_steps z_t_queue l2 l3 l4 y_t_steps y_t_queue = some r → lv_has ls 5 [(0, .ref q_t), (2, .int (nI l2)), (3, .int (nI l3)), (4, .int (nI l4))] → va_P (dC, dI) vwCl (w_FG6 K q_t q_t_links q_t_steps q_t_queue f_t_links f_t_steps f_t_queue z_t_words z_t_diagonals z_t_links y_t_steps y_t_queue) H → va_D A (w_FG6 K q_t q_t_links q_t_steps q_t_queue f_t_links f_t_steps f_t_queue z_t_words z_t_diagonals z_t_links y_t_steps y_t_queue) → va_S A s.heap H locs → W p l e (headSpec wc_FG_distance rm_FG6_distance).room s m args below meth c H locs 0 0 Q (F0 m 27 ls []) := by
    intro ih IH l2 l3 l4 y_t_steps y_t_queue H locs ls hf hl hP hD hS
    unfold b_FG6_distance_27 at hf
    refine lv_iload hx hb dFG_distance_27 (lv_at hl 3 rfl) ?_
    refine lv_aload_n hx hb dFG_distance_29 rfl (lv_at hl 0 rfl) ?_
    refine va_get (D := (dC, dI)) (ci := 6) (v := .int (nI z_t_words)) (C := RFG) (T := TFG) (N := 5) hx hb hws uwFG hown hK hP 0 rfl rfl 0 (by decide) (hws _ kf_FG_15) (fun _ h9 => h9) rfl dFG_distance_30 ?_
    refine lx_icmp_ge (tgt := 71) hx hb dFG_distance_33 (by decide) hf (fun hf => ?_) (fun hf => ?_)
    · exact hj_71 _ IH l2 y_t_steps y_t_queue _ _ _ hf (lv_sub hl [0, 1] rfl) hP hD hS
    · refine lv_iload hx hb dFG_distance_36 (lv_at hl 3 rfl) ?_
      refine lv_iload_n hx hb dFG_distance_38 rfl (lv_at hl 2 rfl) ?_
      refine lx_icmp_ge (tgt := 71) hx hb dFG_distance_39 (by decide) hf (fun hf => ?_) (fun hf => ?_)
      · exact hj_71 _ IH l2 y_t_steps y_t_queue _ _ _ hf (lv_sub hl [0, 1] rfl) hP hD hS
      · refine lv_aload_n hx hb dFG_distance_42 rfl (lv_at hl 0 rfl) ?_
        refine va_get (D := (dC, dI)) (ci := 6) (v := .ref q_t_steps) (C := RFG) (T := TFG) (N := 5) hx hb hws uwFG hown hK hP 0 rfl rfl 3 (by decide) (hws _ kf_FG_27) (fun _ h9 => h9) rfl dFG_distance_43 ?_
        refine lv_iload_n hx hb dFG_distance_46 rfl (lv_at hl 1 rfl) ?_
        refine lx_iald hx hb hK hP 2 0 rfl rfl (by decide) dFG_distance_47 hf (fun v4 _ hf => ?_)
        refine lv_iconst (v := nI 4294967295) hx hb dFG_distance_48 (by decide +kernel) ?_
        refine lx_icmp_ne (tgt := 71) hx hb dFG_distance_49 (by decide) hf (fun hf => ?_) (fun hf => ?_)
        · exact hj_71 _ IH l2 y_t_steps y_t_queue _ _ _ hf (lv_sub hl [0, 1] rfl) hP hD hS
        · refine lv_aload_n hx hb dFG_distance_52 rfl (lv_at hl 0 rfl) ?_
          refine lv_aload_n hx hb dFG_distance_53 rfl (lv_at hl 0 rfl) ?_
          refine va_get (D := (dC, dI)) (ci := 6) (v := .ref q_t_queue) (C := RFG) (T := TFG) (N := 5) hx hb hws uwFG hown hK hP 0 rfl rfl 4 (by decide) (hws _ kf_FG_30) (fun _ h9 => h9) rfl dFG_distance_54 ?_
          refine lv_iload hx hb dFG_distance_57 (lv_at hl 3 rfl) ?_
          refine lx_iald hx hb hK hP 3 0 rfl rfl (by decide) dFG_distance_59 hf (fun v5 _ hf => ?_)
          refine lv_iload_n hx hb dFG_distance_60 rfl (lv_at hl 2 rfl) ?_
          obtain ⟨q6, hq, hf⟩ := bd_s hf
          refine ct_callr (ws' := w_FG6 K q_t q_t_links q_t_steps q_t_queue f_t_links f_t_steps f_t_queue z_t_words z_t_diagonals z_t_links q6.2.1 q6.2.2) (va_runV (As := [.int (nI v5), .int (nI l3)]) (rest := []) ⟨hx, hb, hml, hown, hws⟩ (ct_FG6_findNeighbours l dC dI K q_t q_t_links q_t_steps q_t_queue f_t_links f_t_steps f_t_queue v5 l3 z_t_words z_t_diagonals z_t_links y_t_steps y_t_queue q6 hq _) ⟨cb_FG_findNeighbours hws rm_FG6_findNeighbours (hws _ km_FG_70) ⟨Nat.le_of_ble_eq_true rfl, Nat.le_of_ble_eq_true rfl⟩, hws _ ki_FG_findNeighbours, hws _ ke_FG_FG_findNeighbours_FG_findNeighbours⟩ ⟨ct_blind _ _ _, va_recv (ci := 6) (q0 := 0) (q := (RFG, TFG, 5)) hK hP rfl rfl, ct_pre (cs := (w_FG6 K q_t q_t_links q_t_steps q_t_queue f_t_links f_t_steps f_t_queue z_t_words z_t_diagonals z_t_links y_t_steps y_t_queue)) hP hD hK [0, 1, 2, 3] (by decide) rfl _⟩ rfl rfl hl.1 rfl (lv_room (Nat.le_of_ble_eq_true rfl)) dFG_distance_61 ⟨Nat.le_of_ble_eq_true rfl, Nat.le_of_ble_eq_true rfl⟩) hP hD hS hA [0, 1, 2, 3] rfl rfl rfl rfl (fun H locs hP hD hS => ?_)
          have hP : va_P (dC, dI) vwCl (w_FG6 K q_t q_t_links q_t_steps q_t_queue f_t_links f_t_steps f_t_queue z_t_words z_t_diagonals z_t_links q6.2.1 q6.2.2) H := hP
          have hD : va_D A (w_FG6 K q_t q_t_links q_t_steps q_t_queue f_t_links f_t_steps f_t_queue z_t_words z_t_diagonals z_t_links q6.2.1 q6.2.2) := hD
          refine lv_istore_n hx hb dFG_distance_64 rfl hl (by decide) rfl (fun ls hl => ?_)
          refine lx_iinc (k := 3) (d := 1) hx hb dFG_distance_65 hl rfl (by decide +kernel) (by decide) rfl (fun ls hl => ?_)
          refine lv_goto (tgt := 27) hx hb dFG_distance_68 (by decide) ?_
          have hf := fz_s hf
          have hf := fz_s hf
          have hf := fz_s hf
          have hf := fz_s hf
          exact IH l2 q6.1 (iA l4 1) q6.2.1 q6.2.2 _ _ _ hf (lv_sub hl [2, 3, 1, 0] rfl) hP hD hS
  have key : ∀ k : Nat, (∀ (l2 l3 l4 y_t_steps y_t_queue : Nat) (H : Heap) (locs : List Loc) (ls : Array Slot), fr_FG6_distance x0 x1 z_t_words z_t_diagonals z_t_links z_t_steps z_t_queue k l2 l3 l4 y_t_steps y_t_queue = some r → lv_has ls 5 [(0, .ref q_t), (2, .int (nI l2)), (3, .int (nI l3)), (4, .int (nI l4))] → va_P (dC, dI) vwCl (w_FG6 K q_t q_t_links q_t_steps q_t_queue f_t_links f_t_steps f_t_queue z_t_words z_t_diagonals z_t_links y_t_steps y_t_queue) H → va_D A (w_FG6 K q_t q_t_links q_t_steps q_t_queue f_t_links f_t_steps f_t_queue z_t_words z_t_diagonals z_t_links y_t_steps y_t_queue) → va_S A s.heap H locs → W p l e (headSpec wc_FG_distance rm_FG6_distance).room s m args below meth c H locs 0 0 Q (F0 m 27 ls [])) := by
    intro k
    induction k with
    | zero => exact fun l2 l3 l4 y_t_steps y_t_queue H locs ls hf _ _ _ _ => no_s (α := Nat × Nat × Nat) (r := r) hf
    | succ k IH => exact fun l2 l3 l4 y_t_steps y_t_queue H locs ls hf => hb_27 (fr_FG6_distance x0 x1 z_t_words z_t_diagonals z_t_links z_t_steps z_t_queue k) IH l2 l3 l4 y_t_steps y_t_queue H locs ls ((frs_FG6_distance_27 x0 x1 z_t_words z_t_diagonals z_t_links z_t_steps z_t_queue k l2 l3 l4 y_t_steps y_t_queue).symm.trans hf)
  have IH := key 1000000
  have hf : e_FG6_distance (fr_FG6_distance x0 x1 z_t_words z_t_diagonals z_t_links z_t_steps z_t_queue 1000000) x0 x1 z_t_words z_t_diagonals z_t_links z_t_steps z_t_queue = some r := hf
  unfold e_FG6_distance at hf
  generalize fr_FG6_distance x0 x1 z_t_words z_t_diagonals z_t_links z_t_steps z_t_queue 1000000 = ih at hf IH
  refine lv_aload_n hx hb dFG_distance_0 rfl (lv_at hl 0 rfl) ?_
  refine va_get (D := (dC, dI)) (ci := 6) (v := .ref q_t_steps) (C := RFG) (T := TFG) (N := 5) hx hb hws uwFG hown hK hP 0 rfl rfl 3 (by decide) (hws _ kf_FG_27) (fun _ h9 => h9) rfl dFG_distance_1 ?_
  refine lv_iconst (v := nI 4294967295) hx hb dFG_distance_4 (by decide +kernel) ?_
  obtain ⟨q1, hq, hf⟩ := bd_s hf
  refine ct_callv (ws' := w_FG6 K q_t q_t_links q_t_steps q_t_queue f_t_links f_t_steps f_t_queue z_t_words z_t_diagonals z_t_links q1 z_t_queue) (va_runS (As := [.ref q_t_steps, .int (nI 4294967295)]) (rest := []) ⟨hx, hb, hml, hown, hws⟩ (ct_AR_fill132 l dC dI K q_t_steps f_t_steps 4294967295 z_t_steps q1 hq _) ⟨cb_AR_fill hws rm_AR_fill132 (hws _ km_FG_64) ⟨Nat.le_of_ble_eq_true rfl, Nat.le_of_ble_eq_true rfl⟩, hws _ ks_AR_fill⟩ ⟨ct_blind _ _ _, ct_pre (cs := (wArr K 132 q_t_steps f_t_steps z_t_steps)) hP hD hK [2] (by decide) rfl _⟩ rfl rfl hl.1 rfl (lv_room (Nat.le_of_ble_eq_true rfl)) dFG_distance_5 ⟨Nat.le_of_ble_eq_true rfl, Nat.le_of_ble_eq_true rfl⟩) hP hD hS hA [2] rfl rfl rfl rfl (fun H locs hP hD hS => ?_)
  have hP : va_P (dC, dI) vwCl (w_FG6 K q_t q_t_links q_t_steps q_t_queue f_t_links f_t_steps f_t_queue z_t_words z_t_diagonals z_t_links q1 z_t_queue) H := hP
  have hD : va_D A (w_FG6 K q_t q_t_links q_t_steps q_t_queue f_t_links f_t_steps f_t_queue z_t_words z_t_diagonals z_t_links q1 z_t_queue) := hD
  refine lv_aload_n hx hb dFG_distance_8 rfl (lv_at hl 0 rfl) ?_
  refine va_get (D := (dC, dI)) (ci := 6) (v := .ref q_t_steps) (C := RFG) (T := TFG) (N := 5) hx hb hws uwFG hown hK hP 0 rfl rfl 3 (by decide) (hws _ kf_FG_27) (fun _ h9 => h9) rfl dFG_distance_9 ?_
  refine lv_iload_n hx hb dFG_distance_12 rfl (lv_at hl 1 rfl) ?_
  refine lv_iconst (v := nI 0) hx hb dFG_distance_13 (by decide +kernel) ?_
  refine lx_iast hx hb hK hP hD hS 2 0 rfl rfl (by decide) dFG_distance_14 hf (fun hf H locs hP hD hS => ?_)
  have hP : va_P (dC, dI) vwCl (w_FG6 K q_t q_t_links q_t_steps q_t_queue f_t_links f_t_steps f_t_queue z_t_words z_t_diagonals z_t_links (aw q1 x0 0) z_t_queue) H := hP
  have hD : va_D A (w_FG6 K q_t q_t_links q_t_steps q_t_queue f_t_links f_t_steps f_t_queue z_t_words z_t_diagonals z_t_links (aw q1 x0 0) z_t_queue) := hD
  refine lv_aload_n hx hb dFG_distance_15 rfl (lv_at hl 0 rfl) ?_
  refine va_get (D := (dC, dI)) (ci := 6) (v := .ref q_t_queue) (C := RFG) (T := TFG) (N := 5) hx hb hws uwFG hown hK hP 0 rfl rfl 4 (by decide) (hws _ kf_FG_30) (fun _ h9 => h9) rfl dFG_distance_16 ?_
  refine lv_iconst (v := nI 0) hx hb dFG_distance_19 (by decide +kernel) ?_
  refine lv_iload_n hx hb dFG_distance_20 rfl (lv_at hl 1 rfl) ?_
  refine lx_iast hx hb hK hP hD hS 3 0 rfl rfl (by decide) dFG_distance_21 hf (fun hf H locs hP hD hS => ?_)
  have hP : va_P (dC, dI) vwCl (w_FG6 K q_t q_t_links q_t_steps q_t_queue f_t_links f_t_steps f_t_queue z_t_words z_t_diagonals z_t_links (aw q1 x0 0) (aw z_t_queue 0 x0)) H := hP
  have hD : va_D A (w_FG6 K q_t q_t_links q_t_steps q_t_queue f_t_links f_t_steps f_t_queue z_t_words z_t_diagonals z_t_links (aw q1 x0 0) (aw z_t_queue 0 x0)) := hD
  refine lv_iconst (v := nI 1) hx hb dFG_distance_22 (by decide +kernel) ?_
  refine lv_istore_n hx hb dFG_distance_23 rfl hl (by decide) rfl (fun ls hl => ?_)
  refine lv_iconst (v := nI 0) hx hb dFG_distance_24 (by decide +kernel) ?_
  refine lv_istore hx hb dFG_distance_25 hl (by decide) rfl (fun ls hl => ?_)
  have hf := fz_s hf
  have hf := fz_s hf
  exact IH x1 1 0 (aw q1 x0 0) (aw z_t_queue 0 x0) _ _ _ hf (lv_sub hl [2, 4, 1, 0] rfl) hP hD hS
