abbrev tyK (K : Nat → ClassId) : List (ClassId × FieldType) := [(K 0, .int), (K 1, .array .int), (K 2, .long), (K 3, .object RFA), (K 4, .object RFG)]
noncomputable abbrev wArr (K : Nat → ClassId) (n q : Nat) (f : Nat → Int32) (o : Nat) : va_W := [(q, .inl (K 0, n, .inl (ar f o)))]
noncomputable abbrev wLArr (K : Nat → ClassId) (n q : Nat) (f : Nat → Int64) (o : Nat) : va_W := [(q, .inl (K 2, n, .inr (.inl (arL f o))))]
noncomputable abbrev w_WD (K : Nat → ClassId) (q_t : Nat) (q_t_bits : Nat) (q_t_closings : Nat) (f_t_bits : Nat → Int32) (f_t_closings : Nat → Int32) (z_t_bits : Nat) (z_t_closings : Nat) (z_t_pairs : Nat) : va_W := [(q_t, .inr (8, [.ref q_t_bits, .ref q_t_closings, .int (nI z_t_pairs)])), (q_t_bits, .inl (K 0, 18, .inl (ar f_t_bits z_t_bits))), (q_t_closings, .inl (K 0, 10, .inl (ar f_t_closings z_t_closings)))]
noncomputable abbrev w_TR (K : Nat → ClassId) (q_t : Nat) (q_t_lows : Nat) (q_t_highs : Nat) (f_t_lows : Nat → Int32) (f_t_highs : Nat → Int32) (z_t_lows : Nat) (z_t_highs : Nat) (z_t_diagonals : Nat) : va_W := [(q_t, .inr (3, [.ref q_t_lows, .ref q_t_highs, .int (nI z_t_diagonals)])), (q_t_lows, .inl (K 0, 9, .inl (ar f_t_lows z_t_lows))), (q_t_highs, .inl (K 0, 9, .inl (ar f_t_highs z_t_highs)))]
noncomputable abbrev w_PA (K : Nat → ClassId) (q_t : Nat) (q_t_pile : Nat) (q_t_leasts : Nat) (q_t_greatests : Nat) (q_t_former : Nat) (f_t_pile : Nat → Int32) (f_t_leasts : Nat → Int32) (f_t_greatests : Nat → Int32) (f_t_former : Nat → Int32) (z_t_pile : Nat) (z_t_leasts : Nat) (z_t_greatests : Nat) (z_t_former : Nat) : va_W := [(q_t, .inr (4, [.ref q_t_pile, .ref q_t_leasts, .ref q_t_greatests, .ref q_t_former])), (q_t_pile, .inl (K 0, 9, .inl (ar f_t_pile z_t_pile))), (q_t_leasts, .inl (K 0, 9, .inl (ar f_t_leasts z_t_leasts))), (q_t_greatests, .inl (K 0, 10, .inl (ar f_t_greatests z_t_greatests))), (q_t_former, .inl (K 0, 10, .inl (ar f_t_former z_t_former)))]
noncomputable abbrev w_BT (K : Nat → ClassId) (q_t : Nat) (q_t_ends : Nat) (f_t_ends : Nat → Int32) (z_t_ends : Nat) : va_W := [(q_t, .inr (0, [.ref q_t_ends])), (q_t_ends, .inl (K 0, 9, .inl (ar f_t_ends z_t_ends)))]
noncomputable abbrev w_BR (K : Nat → ClassId) (q_t : Nat) : va_W := [(q_t, .inr (1, []))]
noncomputable abbrev w_PT (K : Nat → ClassId) (q_t : Nat) (q_t_lasts : Nat) (f_t_lasts : Nat → Int32) (z_t_lasts : Nat) : va_W := [(q_t, .inr (2, [.ref q_t_lasts])), (q_t_lasts, .inl (K 0, 10, .inl (ar f_t_lasts z_t_lasts)))]
noncomputable abbrev w_PE (K : Nat → ClassId) (q_t : Nat) (q_t_openers : Nat) (f_t_openers : Nat → Int32) (z_t_openers : Nat) : va_W := [(q_t, .inr (5, [.ref q_t_openers])), (q_t_openers, .inl (K 0, 10, .inl (ar f_t_openers z_t_openers)))]
noncomputable def b_AR_fill10_5 (ih : Nat → Nat → Nat → Nat → Option (Nat)) (x1 : Nat) (z_p0 : Nat) (l1 : Nat) (l2 : Nat) (l3 : Nat) (y_p0 : Nat) : Option (Nat) := (bif iLt l2 l3 then (bif Nat.blt l2 10 then (fz (iA l2 1) (fun u1 => fz (aw y_p0 l2 l1) (fun u2 => ih l1 u1 l3 u2))) else none) else some y_p0)
noncomputable def fr_AR_fill10 (x1 : Nat) (z_p0 : Nat) (k : Nat) : Nat → Nat → Nat → Nat → Option (Nat) := Nat.rec (motive := fun _ => Nat → Nat → Nat → Nat → Option (Nat)) (fun _ _ _ _ => none) (fun _ ih a0 a1 a2 a3 => b_AR_fill10_5 ih x1 z_p0 a0 a1 a2 a3) k
theorem frs_AR_fill10_5 (x1 : Nat) (z_p0 : Nat) (k : Nat) (l1 : Nat) (l2 : Nat) (l3 : Nat) (y_p0 : Nat) : fr_AR_fill10 x1 z_p0 (k + 1) l1 l2 l3 y_p0 = b_AR_fill10_5 (fr_AR_fill10 x1 z_p0 k) x1 z_p0 l1 l2 l3 y_p0 := rfl
noncomputable def e_AR_fill10 (ih : Nat → Nat → Nat → Nat → Option (Nat)) (x1 : Nat) (z_p0 : Nat) : Option (Nat) := (ih x1 0 10 z_p0)
noncomputable def f_AR_fill10 (x1 : Nat) (z_p0 : Nat) : Option (Nat) := e_AR_fill10 (fr_AR_fill10 x1 z_p0 1000000) x1 z_p0
abbrev rm_AR_fill10 : Room := { frames := 0, cells := 0, slots := 0, locals := 0 }
set_option maxHeartbeats 4000000 in
set_option maxRecDepth 100000 in
theorem ct_AR_fill10 (l : Launch) (dC : Nat → ClassId) (dI : Nat → Nat → Nat) (K : Nat → ClassId) (q_p0 : Nat) (f_p0 : Nat → Int32) (x1 : Nat) (z_p0 : Nat) (r : Nat) (hf : f_AR_fill10 x1 z_p0 = some r) : Ct l (dC, dI) vwCl yAR_fill wc_AR_fill rm_AR_fill10 (tyK K) [.ref q_p0, .int (nI x1)] (wArr K 10 q_p0 f_p0 z_p0) (wArr K 10 q_p0 f_p0 r) none := by
  intro sz
  refine Met.ofW (cc := cAR_fill) (maxL := 4) (ret := none) (by decide) rfl ?_
  intro p e s m args below meth c s₁ B hml hv
  obtain ⟨rfl, hsz, hP, hK, hD0⟩ := hv
  have hx := B.exec
  have hb := B.bytes
  have hr := B.returns
  have hts := atoms_spec (ws := wc_AR_fill) B.pre
  have hws : ∀ w ∈ WS, w.before _ s = true := fun w h => hts w (List.mem_cons_of_mem _ h)
  have hown : s.vm.findClass RAR = some m.cls := findClass_of_methodNamed B.named
  have hlocks := B.notSynchronized
  subst hsz
  have hD := hD0.self (sz := s.heap.size)
  generalize hAe : va_A (wArr K 10 q_p0 f_p0 z_p0) s.heap.size = A at hD ⊢
  have hA : ∀ q : Nat, s.heap.size ≤ q → A q := fun q h => by rw [← hAe]; exact Or.inr h
  have hS : va_S A s.heap s.heap [] := va_S.rf
  have hl := lv_entry ([.ref q_p0, .int (nI x1)]) (n := 4) (Nat.le_of_ble_eq_true rfl)
  rw [lg_entry_eq]
  generalize (lg_sl ([.ref q_p0, .int (nI x1)]) ++ List.replicate (4 - (lg_sl ([.ref q_p0, .int (nI x1)])).length) Slot.unset).toArray = ls at hl ⊢
  have hl : lv_has ls 4 [(0, .ref q_p0), (1, .int (nI x1))] := hl
  generalize ([.ref q_p0, .int (nI x1)] : List Value).toArray = args at hts hws ⊢
  generalize hQ : MQ below _ _ _ _ _ _ = Q
  have hb_5 : ∀ (ih : Nat → Nat → Nat → Nat → Option (Nat)) (IH : (∀ (l1 l2 l3 y_p0 : Nat) (H : Heap) (locs : List Loc) (ls : Array Slot), ih l1 l2 l3 y_p0 = some r → lv_has ls 4 [(0, .ref q_p0), (1, .int (nI l1)), (2, .int (nI l2)), (3, .int (nI l3))] → va_P (dC, dI) vwCl (wArr K 10 q_p0 f_p0 y_p0) H → va_D A (wArr K 10 q_p0 f_p0 y_p0) → va_S A s.heap H locs → W p l e (headSpec wc_AR_fill rm_AR_fill10).room s m args below meth c H locs 0 0 Q (F0 m 5 ls []))), ∀ (l1 l2 l3 y_p0 : Nat) (H : Heap) (locs : List Loc) (ls : Array Slot), b_AR_fill10_5 ih x1 z_p0 l1 l2 l3 y_p0 = some r → lv_has ls 4 [(0, .ref q_p0), (1, .int (nI l1)), (2, .int (nI l2)), (3, .int (nI l3))] → va_P (dC, dI) vwCl (wArr K 10 q_p0 f_p0 y_p0) H → va_D A (wArr K 10 q_p0 f_p0 y_p0) → va_S A s.heap H locs → W p l e (headSpec wc_AR_fill rm_AR_fill10).room s m args below meth c H locs 0 0 Q (F0 m 5 ls []) := by
    intro ih IH l1 l2 l3 y_p0 H locs ls hf hl hP hD hS
    unfold b_AR_fill10_5 at hf
    refine lv_iload_n hx hb dAR_fill_5 rfl (lv_at hl 2 rfl) ?_
    refine lv_iload_n hx hb dAR_fill_6 rfl (lv_at hl 3 rfl) ?_
    refine lx_icmp_ge (tgt := 20) hx hb dAR_fill_7 (by decide) hf (fun hf => ?_) (fun hf => ?_)
    · obtain rfl := Option.some.inj hf
      rw [← hQ]
      exact W.vret hx hb hr (fun t ht hW => ⟨⟨rfl, by rw [ht]; exact hP⟩, hS.F ht⟩) hS.2.2 dAR_fill_20
    · refine lv_aload_n hx hb dAR_fill_10 rfl (lv_at hl 0 rfl) ?_
      refine lv_iload_n hx hb dAR_fill_11 rfl (lv_at hl 2 rfl) ?_
      refine lv_iload_n hx hb dAR_fill_12 rfl (lv_at hl 1 rfl) ?_
      refine lx_iast hx hb hK hP hD hS 0 0 rfl rfl (by decide) dAR_fill_13 hf (fun hf H locs hP hD hS => ?_)
      have hP : va_P (dC, dI) vwCl (wArr K 10 q_p0 f_p0 (aw y_p0 l2 l1)) H := hP
      have hD : va_D A (wArr K 10 q_p0 f_p0 (aw y_p0 l2 l1)) := hD
      refine lx_iinc (k := 2) (d := 1) hx hb dAR_fill_14 hl rfl (by decide +kernel) (by decide) rfl (fun ls hl => ?_)
      refine lv_goto (tgt := 5) hx hb dAR_fill_17 (by decide) ?_
      have hf := fz_s hf
      have hf := fz_s hf
      exact IH l1 (iA l2 1) l3 (aw y_p0 l2 l1) _ _ _ hf (lv_sub hl [1, 2, 0, 3] rfl) hP hD hS
  have key : ∀ k : Nat, (∀ (l1 l2 l3 y_p0 : Nat) (H : Heap) (locs : List Loc) (ls : Array Slot), fr_AR_fill10 x1 z_p0 k l1 l2 l3 y_p0 = some r → lv_has ls 4 [(0, .ref q_p0), (1, .int (nI l1)), (2, .int (nI l2)), (3, .int (nI l3))] → va_P (dC, dI) vwCl (wArr K 10 q_p0 f_p0 y_p0) H → va_D A (wArr K 10 q_p0 f_p0 y_p0) → va_S A s.heap H locs → W p l e (headSpec wc_AR_fill rm_AR_fill10).room s m args below meth c H locs 0 0 Q (F0 m 5 ls [])) := by
    intro k
    induction k with
    | zero => exact fun l1 l2 l3 y_p0 H locs ls hf _ _ _ _ => no_s (α := Nat) (r := r) hf
    | succ k IH => exact fun l1 l2 l3 y_p0 H locs ls hf => hb_5 (fr_AR_fill10 x1 z_p0 k) IH l1 l2 l3 y_p0 H locs ls ((frs_AR_fill10_5 x1 z_p0 k l1 l2 l3 y_p0).symm.trans hf)
  have IH := key 1000000
  have hf : e_AR_fill10 (fr_AR_fill10 x1 z_p0 1000000) x1 z_p0 = some r := hf
  unfold e_AR_fill10 at hf
  generalize fr_AR_fill10 x1 z_p0 1000000 = ih at hf IH
  refine lv_iconst (v := nI 0) hx hb dAR_fill_0 (by decide +kernel) ?_
  refine lv_istore_n hx hb dAR_fill_1 rfl hl (by decide) rfl (fun ls hl => ?_)
  refine lv_aload_n hx hb dAR_fill_2 rfl (lv_at hl 1 rfl) ?_
  refine va_alen hx hb hK hP 0 0 rfl rfl (v := nI 10) rfl dAR_fill_3 ?_
  refine lv_istore_n hx hb dAR_fill_4 rfl hl (by decide) rfl (fun ls hl => ?_)
  exact IH x1 0 10 z_p0 _ _ _ hf (lv_sub hl [2, 3, 1, 0] rfl) hP hD hS
noncomputable def b_AR_fill9_5 (ih : Nat → Nat → Nat → Nat → Option (Nat)) (x1 : Nat) (z_p0 : Nat) (l1 : Nat) (l2 : Nat) (l3 : Nat) (y_p0 : Nat) : Option (Nat) := (bif iLt l2 l3 then (bif Nat.blt l2 9 then (fz (iA l2 1) (fun u1 => fz (aw y_p0 l2 l1) (fun u2 => ih l1 u1 l3 u2))) else none) else some y_p0)
noncomputable def fr_AR_fill9 (x1 : Nat) (z_p0 : Nat) (k : Nat) : Nat → Nat → Nat → Nat → Option (Nat) := Nat.rec (motive := fun _ => Nat → Nat → Nat → Nat → Option (Nat)) (fun _ _ _ _ => none) (fun _ ih a0 a1 a2 a3 => b_AR_fill9_5 ih x1 z_p0 a0 a1 a2 a3) k
theorem frs_AR_fill9_5 (x1 : Nat) (z_p0 : Nat) (k : Nat) (l1 : Nat) (l2 : Nat) (l3 : Nat) (y_p0 : Nat) : fr_AR_fill9 x1 z_p0 (k + 1) l1 l2 l3 y_p0 = b_AR_fill9_5 (fr_AR_fill9 x1 z_p0 k) x1 z_p0 l1 l2 l3 y_p0 := rfl
noncomputable def e_AR_fill9 (ih : Nat → Nat → Nat → Nat → Option (Nat)) (x1 : Nat) (z_p0 : Nat) : Option (Nat) := (ih x1 0 9 z_p0)
noncomputable def f_AR_fill9 (x1 : Nat) (z_p0 : Nat) : Option (Nat) := e_AR_fill9 (fr_AR_fill9 x1 z_p0 1000000) x1 z_p0
abbrev rm_AR_fill9 : Room := { frames := 0, cells := 0, slots := 0, locals := 0 }
set_option maxHeartbeats 4000000 in
set_option maxRecDepth 100000 in
theorem ct_AR_fill9 (l : Launch) (dC : Nat → ClassId) (dI : Nat → Nat → Nat) (K : Nat → ClassId) (q_p0 : Nat) (f_p0 : Nat → Int32) (x1 : Nat) (z_p0 : Nat) (r : Nat) (hf : f_AR_fill9 x1 z_p0 = some r) : Ct l (dC, dI) vwCl yAR_fill wc_AR_fill rm_AR_fill9 (tyK K) [.ref q_p0, .int (nI x1)] (wArr K 9 q_p0 f_p0 z_p0) (wArr K 9 q_p0 f_p0 r) none := by
  intro sz
  refine Met.ofW (cc := cAR_fill) (maxL := 4) (ret := none) (by decide) rfl ?_
  intro p e s m args below meth c s₁ B hml hv
  obtain ⟨rfl, hsz, hP, hK, hD0⟩ := hv
  have hx := B.exec
  have hb := B.bytes
  have hr := B.returns
  have hts := atoms_spec (ws := wc_AR_fill) B.pre
  have hws : ∀ w ∈ WS, w.before _ s = true := fun w h => hts w (List.mem_cons_of_mem _ h)
  have hown : s.vm.findClass RAR = some m.cls := findClass_of_methodNamed B.named
  have hlocks := B.notSynchronized
  subst hsz
  have hD := hD0.self (sz := s.heap.size)
  generalize hAe : va_A (wArr K 9 q_p0 f_p0 z_p0) s.heap.size = A at hD ⊢
  have hA : ∀ q : Nat, s.heap.size ≤ q → A q := fun q h => by rw [← hAe]; exact Or.inr h
  have hS : va_S A s.heap s.heap [] := va_S.rf
  have hl := lv_entry ([.ref q_p0, .int (nI x1)]) (n := 4) (Nat.le_of_ble_eq_true rfl)
  rw [lg_entry_eq]
  generalize (lg_sl ([.ref q_p0, .int (nI x1)]) ++ List.replicate (4 - (lg_sl ([.ref q_p0, .int (nI x1)])).length) Slot.unset).toArray = ls at hl ⊢
  have hl : lv_has ls 4 [(0, .ref q_p0), (1, .int (nI x1))] := hl
  generalize ([.ref q_p0, .int (nI x1)] : List Value).toArray = args at hts hws ⊢
  generalize hQ : MQ below _ _ _ _ _ _ = Q
  have hb_5 : ∀ (ih : Nat → Nat → Nat → Nat → Option (Nat)) (IH : (∀ (l1 l2 l3 y_p0 : Nat) (H : Heap) (locs : List Loc) (ls : Array Slot), ih l1 l2 l3 y_p0 = some r → lv_has ls 4 [(0, .ref q_p0), (1, .int (nI l1)), (2, .int (nI l2)), (3, .int (nI l3))] → va_P (dC, dI) vwCl (wArr K 9 q_p0 f_p0 y_p0) H → va_D A (wArr K 9 q_p0 f_p0 y_p0) → va_S A s.heap H locs → W p l e (headSpec wc_AR_fill rm_AR_fill9).room s m args below meth c H locs 0 0 Q (F0 m 5 ls []))), ∀ (l1 l2 l3 y_p0 : Nat) (H : Heap) (locs : List Loc) (ls : Array Slot), b_AR_fill9_5 ih x1 z_p0 l1 l2 l3 y_p0 = some r → lv_has ls 4 [(0, .ref q_p0), (1, .int (nI l1)), (2, .int (nI l2)), (3, .int (nI l3))] → va_P (dC, dI) vwCl (wArr K 9 q_p0 f_p0 y_p0) H → va_D A (wArr K 9 q_p0 f_p0 y_p0) → va_S A s.heap H locs → W p l e (headSpec wc_AR_fill rm_AR_fill9).room s m args below meth c H locs 0 0 Q (F0 m 5 ls []) := by
    intro ih IH l1 l2 l3 y_p0 H locs ls hf hl hP hD hS
    unfold b_AR_fill9_5 at hf
    refine lv_iload_n hx hb dAR_fill_5 rfl (lv_at hl 2 rfl) ?_
    refine lv_iload_n hx hb dAR_fill_6 rfl (lv_at hl 3 rfl) ?_
    refine lx_icmp_ge (tgt := 20) hx hb dAR_fill_7 (by decide) hf (fun hf => ?_) (fun hf => ?_)
    · obtain rfl := Option.some.inj hf
      rw [← hQ]
      exact W.vret hx hb hr (fun t ht hW => ⟨⟨rfl, by rw [ht]; exact hP⟩, hS.F ht⟩) hS.2.2 dAR_fill_20
    · refine lv_aload_n hx hb dAR_fill_10 rfl (lv_at hl 0 rfl) ?_
      refine lv_iload_n hx hb dAR_fill_11 rfl (lv_at hl 2 rfl) ?_
      refine lv_iload_n hx hb dAR_fill_12 rfl (lv_at hl 1 rfl) ?_
      refine lx_iast hx hb hK hP hD hS 0 0 rfl rfl (by decide) dAR_fill_13 hf (fun hf H locs hP hD hS => ?_)
      have hP : va_P (dC, dI) vwCl (wArr K 9 q_p0 f_p0 (aw y_p0 l2 l1)) H := hP
      have hD : va_D A (wArr K 9 q_p0 f_p0 (aw y_p0 l2 l1)) := hD
      refine lx_iinc (k := 2) (d := 1) hx hb dAR_fill_14 hl rfl (by decide +kernel) (by decide) rfl (fun ls hl => ?_)
      refine lv_goto (tgt := 5) hx hb dAR_fill_17 (by decide) ?_
      have hf := fz_s hf
      have hf := fz_s hf
      exact IH l1 (iA l2 1) l3 (aw y_p0 l2 l1) _ _ _ hf (lv_sub hl [1, 2, 0, 3] rfl) hP hD hS
  have key : ∀ k : Nat, (∀ (l1 l2 l3 y_p0 : Nat) (H : Heap) (locs : List Loc) (ls : Array Slot), fr_AR_fill9 x1 z_p0 k l1 l2 l3 y_p0 = some r → lv_has ls 4 [(0, .ref q_p0), (1, .int (nI l1)), (2, .int (nI l2)), (3, .int (nI l3))] → va_P (dC, dI) vwCl (wArr K 9 q_p0 f_p0 y_p0) H → va_D A (wArr K 9 q_p0 f_p0 y_p0) → va_S A s.heap H locs → W p l e (headSpec wc_AR_fill rm_AR_fill9).room s m args below meth c H locs 0 0 Q (F0 m 5 ls [])) := by
    intro k
    induction k with
    | zero => exact fun l1 l2 l3 y_p0 H locs ls hf _ _ _ _ => no_s (α := Nat) (r := r) hf
    | succ k IH => exact fun l1 l2 l3 y_p0 H locs ls hf => hb_5 (fr_AR_fill9 x1 z_p0 k) IH l1 l2 l3 y_p0 H locs ls ((frs_AR_fill9_5 x1 z_p0 k l1 l2 l3 y_p0).symm.trans hf)
  have IH := key 1000000
  have hf : e_AR_fill9 (fr_AR_fill9 x1 z_p0 1000000) x1 z_p0 = some r := hf
  unfold e_AR_fill9 at hf
  generalize fr_AR_fill9 x1 z_p0 1000000 = ih at hf IH
  refine lv_iconst (v := nI 0) hx hb dAR_fill_0 (by decide +kernel) ?_
  refine lv_istore_n hx hb dAR_fill_1 rfl hl (by decide) rfl (fun ls hl => ?_)
  refine lv_aload_n hx hb dAR_fill_2 rfl (lv_at hl 1 rfl) ?_
  refine va_alen hx hb hK hP 0 0 rfl rfl (v := nI 9) rfl dAR_fill_3 ?_
  refine lv_istore_n hx hb dAR_fill_4 rfl hl (by decide) rfl (fun ls hl => ?_)
  exact IH x1 0 9 z_p0 _ _ _ hf (lv_sub hl [2, 3, 1, 0] rfl) hP hD hS
noncomputable def f_WD_pairs (z_t_pairs : Nat) : Option (Nat) := some z_t_pairs
abbrev rm_WD_pairs : Room := { frames := 0, cells := 0, slots := 0, locals := 0 }
set_option maxHeartbeats 4000000 in
set_option maxRecDepth 100000 in
theorem ct_WD_pairs (l : Launch) (dC : Nat → ClassId) (dI : Nat → Nat → Nat) (K : Nat → ClassId) (q_t : Nat) (q_t_bits : Nat) (q_t_closings : Nat) (f_t_bits : Nat → Int32) (f_t_closings : Nat → Int32) (z_t_bits : Nat) (z_t_closings : Nat) (z_t_pairs : Nat) (r : Nat) (hf : f_WD_pairs z_t_pairs = some r) : Ct l (dC, dI) vwCl yWD_pairs wc_WD_pairs rm_WD_pairs (tyK K) [.ref q_t] (w_WD K q_t q_t_bits q_t_closings f_t_bits f_t_closings z_t_bits z_t_closings z_t_pairs) (w_WD K q_t q_t_bits q_t_closings f_t_bits f_t_closings z_t_bits z_t_closings z_t_pairs) (some (.int (nI r))) := by
  intro sz
  refine Met.ofW (cc := cWD_pairs) (maxL := 1) (ret := (some .int)) (by decide) rfl ?_
  intro p e s m args below meth c s₁ B hml hv
  obtain ⟨rfl, hsz, hP, hK, hD0⟩ := hv
  have hx := B.exec
  have hb := B.bytes
  have hr := B.returns
  have hts := atoms_spec (ws := wc_WD_pairs) B.pre
  have hws : ∀ w ∈ WS, w.before _ s = true := fun w h => hts w (List.mem_cons_of_mem _ h)
  have hown : s.vm.findClass RWD = some m.cls := findClass_of_methodNamed B.named
  have hlocks := B.notSynchronized
  subst hsz
  have hD := hD0.self (sz := s.heap.size)
  generalize hAe : va_A (w_WD K q_t q_t_bits q_t_closings f_t_bits f_t_closings z_t_bits z_t_closings z_t_pairs) s.heap.size = A at hD ⊢
  have hA : ∀ q : Nat, s.heap.size ≤ q → A q := fun q h => by rw [← hAe]; exact Or.inr h
  have hS : va_S A s.heap s.heap [] := va_S.rf
  have hl := lv_entry ([.ref q_t]) (n := 1) (Nat.le_of_ble_eq_true rfl)
  rw [lg_entry_eq]
  generalize (lg_sl ([.ref q_t]) ++ List.replicate (1 - (lg_sl ([.ref q_t])).length) Slot.unset).toArray = ls at hl ⊢
  have hl : lv_has ls 1 [(0, .ref q_t)] := hl
  generalize ([.ref q_t] : List Value).toArray = args at hts hws ⊢
  generalize hQ : MQ below _ _ _ _ _ _ = Q
  unfold f_WD_pairs at hf
  refine lv_aload_n hx hb dWD_pairs_0 rfl (lv_at hl 0 rfl) ?_
  refine va_get (D := (dC, dI)) (ci := 8) (v := .int (nI z_t_pairs)) (C := RWD) (T := TWD) (N := 3) hx hb hws uwWD hown hK hP 0 rfl rfl 2 (by decide) (hws _ kf_WD_18) (fun _ h9 => h9) rfl dWD_pairs_1 ?_
  obtain rfl := Option.some.inj hf
  rw [← hQ]
  exact W.iret (v := nI z_t_pairs) hx hb hr (fun t ht hW => ⟨⟨rfl, by rw [ht]; exact hP⟩, hS.F ht⟩) hS.2.2 dWD_pairs_4
noncomputable def f_WD_length (z_t_pairs : Nat) : Option (Nat) := some (iM 2 z_t_pairs)
abbrev rm_WD_length : Room := { frames := 0, cells := 0, slots := 0, locals := 0 }
set_option maxHeartbeats 4000000 in
set_option maxRecDepth 100000 in
theorem ct_WD_length (l : Launch) (dC : Nat → ClassId) (dI : Nat → Nat → Nat) (K : Nat → ClassId) (q_t : Nat) (q_t_bits : Nat) (q_t_closings : Nat) (f_t_bits : Nat → Int32) (f_t_closings : Nat → Int32) (z_t_bits : Nat) (z_t_closings : Nat) (z_t_pairs : Nat) (r : Nat) (hf : f_WD_length z_t_pairs = some r) : Ct l (dC, dI) vwCl yWD_length wc_WD_length rm_WD_length (tyK K) [.ref q_t] (w_WD K q_t q_t_bits q_t_closings f_t_bits f_t_closings z_t_bits z_t_closings z_t_pairs) (w_WD K q_t q_t_bits q_t_closings f_t_bits f_t_closings z_t_bits z_t_closings z_t_pairs) (some (.int (nI r))) := by
  intro sz
  refine Met.ofW (cc := cWD_length) (maxL := 1) (ret := (some .int)) (by decide) rfl ?_
  intro p e s m args below meth c s₁ B hml hv
  obtain ⟨rfl, hsz, hP, hK, hD0⟩ := hv
  have hx := B.exec
  have hb := B.bytes
  have hr := B.returns
  have hts := atoms_spec (ws := wc_WD_length) B.pre
  have hws : ∀ w ∈ WS, w.before _ s = true := fun w h => hts w (List.mem_cons_of_mem _ h)
  have hown : s.vm.findClass RWD = some m.cls := findClass_of_methodNamed B.named
  have hlocks := B.notSynchronized
  subst hsz
  have hD := hD0.self (sz := s.heap.size)
  generalize hAe : va_A (w_WD K q_t q_t_bits q_t_closings f_t_bits f_t_closings z_t_bits z_t_closings z_t_pairs) s.heap.size = A at hD ⊢
  have hA : ∀ q : Nat, s.heap.size ≤ q → A q := fun q h => by rw [← hAe]; exact Or.inr h
  have hS : va_S A s.heap s.heap [] := va_S.rf
  have hl := lv_entry ([.ref q_t]) (n := 1) (Nat.le_of_ble_eq_true rfl)
  rw [lg_entry_eq]
  generalize (lg_sl ([.ref q_t]) ++ List.replicate (1 - (lg_sl ([.ref q_t])).length) Slot.unset).toArray = ls at hl ⊢
  have hl : lv_has ls 1 [(0, .ref q_t)] := hl
  generalize ([.ref q_t] : List Value).toArray = args at hts hws ⊢
  generalize hQ : MQ below _ _ _ _ _ _ = Q
  unfold f_WD_length at hf
  refine lv_iconst (v := nI 2) hx hb dWD_length_0 (by decide +kernel) ?_
  refine lv_aload_n hx hb dWD_length_1 rfl (lv_at hl 0 rfl) ?_
  refine va_get (D := (dC, dI)) (ci := 8) (v := .int (nI z_t_pairs)) (C := RWD) (T := TWD) (N := 3) hx hb hws uwWD hown hK hP 0 rfl rfl 2 (by decide) (hws _ kf_WD_18) (fun _ h9 => h9) rfl dWD_length_2 ?_
  refine lx_imul hx hb dWD_length_5 ?_
  obtain rfl := Option.some.inj hf
  rw [← hQ]
  exact W.iret (v := nI (iM 2 z_t_pairs)) hx hb hr (fun t ht hW => ⟨⟨rfl, by rw [ht]; exact hP⟩, hS.F ht⟩) hS.2.2 dWD_length_6
noncomputable def f_WD_begin (x0 : Nat) (z_t_closings : Nat) (z_t_pairs : Nat) : Option (Nat × Nat) := (Option.bind (f_AR_fill10 0 z_t_closings) (fun q1 => some (q1, x0)))
abbrev rm_WD_begin : Room := { frames := 1, cells := 0, slots := 0, locals := 23 }
set_option maxHeartbeats 4000000 in
set_option maxRecDepth 100000 in
theorem ct_WD_begin (l : Launch) (dC : Nat → ClassId) (dI : Nat → Nat → Nat) (K : Nat → ClassId) (q_t : Nat) (q_t_bits : Nat) (q_t_closings : Nat) (f_t_bits : Nat → Int32) (f_t_closings : Nat → Int32) (x0 : Nat) (z_t_bits : Nat) (z_t_closings : Nat) (z_t_pairs : Nat) (r : Nat × Nat) (hf : f_WD_begin x0 z_t_closings z_t_pairs = some r) : Ct l (dC, dI) vwCl yWD_begin wc_WD_begin rm_WD_begin (tyK K) [.ref q_t, .int (nI x0)] (w_WD K q_t q_t_bits q_t_closings f_t_bits f_t_closings z_t_bits z_t_closings z_t_pairs) (w_WD K q_t q_t_bits q_t_closings f_t_bits f_t_closings z_t_bits r.1 r.2) none := by
  intro sz
  refine Met.ofW (cc := cWD_begin) (maxL := 2) (ret := none) (by decide) rfl ?_
  intro p e s m args below meth c s₁ B hml hv
  obtain ⟨rfl, hsz, hP, hK, hD0⟩ := hv
  have hx := B.exec
  have hb := B.bytes
  have hr := B.returns
  have hts := atoms_spec (ws := wc_WD_begin) B.pre
  have hws : ∀ w ∈ WS, w.before _ s = true := fun w h => hts w (List.mem_cons_of_mem _ h)
  have hown : s.vm.findClass RWD = some m.cls := findClass_of_methodNamed B.named
  have hlocks := B.notSynchronized
  subst hsz
  have hD := hD0.self (sz := s.heap.size)
  generalize hAe : va_A (w_WD K q_t q_t_bits q_t_closings f_t_bits f_t_closings z_t_bits z_t_closings z_t_pairs) s.heap.size = A at hD ⊢
  have hA : ∀ q : Nat, s.heap.size ≤ q → A q := fun q h => by rw [← hAe]; exact Or.inr h
  have hS : va_S A s.heap s.heap [] := va_S.rf
  have hl := lv_entry ([.ref q_t, .int (nI x0)]) (n := 2) (Nat.le_of_ble_eq_true rfl)
  rw [lg_entry_eq]
  generalize (lg_sl ([.ref q_t, .int (nI x0)]) ++ List.replicate (2 - (lg_sl ([.ref q_t, .int (nI x0)])).length) Slot.unset).toArray = ls at hl ⊢
  have hl : lv_has ls 2 [(0, .ref q_t), (1, .int (nI x0))] := hl
  generalize ([.ref q_t, .int (nI x0)] : List Value).toArray = args at hts hws ⊢
  generalize hQ : MQ below _ _ _ _ _ _ = Q
  unfold f_WD_begin at hf
  refine lv_aload_n hx hb dWD_begin_0 rfl (lv_at hl 0 rfl) ?_
  refine lv_iload_n hx hb dWD_begin_1 rfl (lv_at hl 1 rfl) ?_
  refine va_put (D := (dC, dI)) (ci := 8) (v := .int (nI x0)) (ty := .int) (C := RWD) (T := TWD) (N := 3) hx hb hws uwWD tyWD okWD nmWD hown hK hP hD hS 0 rfl rfl 2 (by decide) (hws _ kf_WD_18) (fun _ h9 => h9) rfl (by decide +kernel) rfl rfl (Nat.le_of_ble_eq_true rfl) dWD_begin_2 (fun H locs hP hD hS => ?_)
  have hP : va_P (dC, dI) vwCl (w_WD K q_t q_t_bits q_t_closings f_t_bits f_t_closings z_t_bits z_t_closings x0) H := hP
  have hD : va_D A (w_WD K q_t q_t_bits q_t_closings f_t_bits f_t_closings z_t_bits z_t_closings x0) := hD
  refine lv_aload_n hx hb dWD_begin_5 rfl (lv_at hl 0 rfl) ?_
  refine va_get (D := (dC, dI)) (ci := 8) (v := .ref q_t_closings) (C := RWD) (T := TWD) (N := 3) hx hb hws uwWD hown hK hP 0 rfl rfl 1 (by decide) (hws _ kf_WD_15) (fun _ h9 => h9) rfl dWD_begin_6 ?_
  refine lv_iconst (v := nI 0) hx hb dWD_begin_9 (by decide +kernel) ?_
  obtain ⟨q1, hq, hf⟩ := bd_s hf
  refine ct_callv (ws' := w_WD K q_t q_t_bits q_t_closings f_t_bits f_t_closings z_t_bits q1 x0) (va_runS (As := [.ref q_t_closings, .int (nI 0)]) (rest := []) ⟨hx, hb, hml, hown, hws⟩ (ct_AR_fill10 l dC dI K q_t_closings f_t_closings 0 z_t_closings q1 hq _) ⟨cb_AR_fill hws rm_AR_fill10 (hws _ km_WD_22) ⟨Nat.le_of_ble_eq_true rfl, Nat.le_of_ble_eq_true rfl⟩, hws _ ks_AR_fill⟩ ⟨ct_blind _ _ _, ct_pre (cs := (wArr K 10 q_t_closings f_t_closings z_t_closings)) hP hD hK [2] (by decide) rfl _⟩ rfl rfl hl.1 rfl (lv_room (Nat.le_of_ble_eq_true rfl)) dWD_begin_10 ⟨Nat.le_of_ble_eq_true rfl, Nat.le_of_ble_eq_true rfl⟩) hP hD hS hA [2] rfl rfl rfl rfl (fun H locs hP hD hS => ?_)
  have hP : va_P (dC, dI) vwCl (w_WD K q_t q_t_bits q_t_closings f_t_bits f_t_closings z_t_bits q1 x0) H := hP
  have hD : va_D A (w_WD K q_t q_t_bits q_t_closings f_t_bits f_t_closings z_t_bits q1 x0) := hD
  obtain rfl := Option.some.inj hf
  rw [← hQ]
  exact W.vret hx hb hr (fun t ht hW => ⟨⟨rfl, by rw [ht]; exact hP⟩, hS.F ht⟩) hS.2.2 dWD_begin_13
noncomputable def f_WD_closeAfter (x0 : Nat) (z_t_closings : Nat) (z_t_pairs : Nat) : Option (Nat) := (bif iLt x0 1 then some z_t_closings else (bif iLt z_t_pairs x0 then some z_t_closings else (rd z_t_closings 10 x0 (fun v1 => (bif Nat.blt x0 10 then some (aw z_t_closings x0 (iA v1 1)) else none)))))
abbrev rm_WD_closeAfter : Room := { frames := 0, cells := 0, slots := 0, locals := 0 }
set_option maxHeartbeats 4000000 in
set_option maxRecDepth 100000 in
theorem ct_WD_closeAfter (l : Launch) (dC : Nat → ClassId) (dI : Nat → Nat → Nat) (K : Nat → ClassId) (q_t : Nat) (q_t_bits : Nat) (q_t_closings : Nat) (f_t_bits : Nat → Int32) (f_t_closings : Nat → Int32) (x0 : Nat) (z_t_bits : Nat) (z_t_closings : Nat) (z_t_pairs : Nat) (r : Nat) (hf : f_WD_closeAfter x0 z_t_closings z_t_pairs = some r) : Ct l (dC, dI) vwCl yWD_closeAfter wc_WD_closeAfter rm_WD_closeAfter (tyK K) [.ref q_t, .int (nI x0)] (w_WD K q_t q_t_bits q_t_closings f_t_bits f_t_closings z_t_bits z_t_closings z_t_pairs) (w_WD K q_t q_t_bits q_t_closings f_t_bits f_t_closings z_t_bits r z_t_pairs) none := by
  intro sz
  refine Met.ofW (cc := cWD_closeAfter) (maxL := 2) (ret := none) (by decide) rfl ?_
  intro p e s m args below meth c s₁ B hml hv
  obtain ⟨rfl, hsz, hP, hK, hD0⟩ := hv
  have hx := B.exec
  have hb := B.bytes
  have hr := B.returns
  have hts := atoms_spec (ws := wc_WD_closeAfter) B.pre
  have hws : ∀ w ∈ WS, w.before _ s = true := fun w h => hts w (List.mem_cons_of_mem _ h)
  have hown : s.vm.findClass RWD = some m.cls := findClass_of_methodNamed B.named
  have hlocks := B.notSynchronized
  subst hsz
  have hD := hD0.self (sz := s.heap.size)
  generalize hAe : va_A (w_WD K q_t q_t_bits q_t_closings f_t_bits f_t_closings z_t_bits z_t_closings z_t_pairs) s.heap.size = A at hD ⊢
  have hA : ∀ q : Nat, s.heap.size ≤ q → A q := fun q h => by rw [← hAe]; exact Or.inr h
  have hS : va_S A s.heap s.heap [] := va_S.rf
  have hl := lv_entry ([.ref q_t, .int (nI x0)]) (n := 2) (Nat.le_of_ble_eq_true rfl)
  rw [lg_entry_eq]
  generalize (lg_sl ([.ref q_t, .int (nI x0)]) ++ List.replicate (2 - (lg_sl ([.ref q_t, .int (nI x0)])).length) Slot.unset).toArray = ls at hl ⊢
  have hl : lv_has ls 2 [(0, .ref q_t), (1, .int (nI x0))] := hl
  generalize ([.ref q_t, .int (nI x0)] : List Value).toArray = args at hts hws ⊢
  generalize hQ : MQ below _ _ _ _ _ _ = Q
  unfold f_WD_closeAfter at hf
  refine lv_iload_n hx hb dWD_closeAfter_0 rfl (lv_at hl 1 rfl) ?_
  refine lv_iconst (v := nI 1) hx hb dWD_closeAfter_1 (by decide +kernel) ?_
  refine lx_icmp_lt (tgt := 23) hx hb dWD_closeAfter_2 (by decide) hf (fun hf => ?_) (fun hf => ?_)
  · obtain rfl := Option.some.inj hf
    rw [← hQ]
    exact W.vret hx hb hr (fun t ht hW => ⟨⟨rfl, by rw [ht]; exact hP⟩, hS.F ht⟩) hS.2.2 dWD_closeAfter_23
  · refine lv_iload_n hx hb dWD_closeAfter_5 rfl (lv_at hl 1 rfl) ?_
    refine lv_aload_n hx hb dWD_closeAfter_6 rfl (lv_at hl 0 rfl) ?_
    refine va_get (D := (dC, dI)) (ci := 8) (v := .int (nI z_t_pairs)) (C := RWD) (T := TWD) (N := 3) hx hb hws uwWD hown hK hP 0 rfl rfl 2 (by decide) (hws _ kf_WD_18) (fun _ h9 => h9) rfl dWD_closeAfter_7 ?_
    refine lx_icmp_gt (tgt := 23) hx hb dWD_closeAfter_10 (by decide) hf (fun hf => ?_) (fun hf => ?_)
    · obtain rfl := Option.some.inj hf
      rw [← hQ]
      exact W.vret hx hb hr (fun t ht hW => ⟨⟨rfl, by rw [ht]; exact hP⟩, hS.F ht⟩) hS.2.2 dWD_closeAfter_23
    · refine lv_aload_n hx hb dWD_closeAfter_13 rfl (lv_at hl 0 rfl) ?_
      refine va_get (D := (dC, dI)) (ci := 8) (v := .ref q_t_closings) (C := RWD) (T := TWD) (N := 3) hx hb hws uwWD hown hK hP 0 rfl rfl 1 (by decide) (hws _ kf_WD_15) (fun _ h9 => h9) rfl dWD_closeAfter_14 ?_
      refine lv_iload_n hx hb dWD_closeAfter_17 rfl (lv_at hl 1 rfl) ?_
      refine lv_dup2_11 hx hb dWD_closeAfter_18 rfl rfl ?_
      refine lx_iald hx hb hK hP 2 0 rfl rfl (by decide) dWD_closeAfter_19 hf (fun v1 _ hf => ?_)
      refine lv_iconst (v := nI 1) hx hb dWD_closeAfter_20 (by decide +kernel) ?_
      refine lx_iadd hx hb dWD_closeAfter_21 ?_
      refine lx_iast hx hb hK hP hD hS 2 0 rfl rfl (by decide) dWD_closeAfter_22 hf (fun hf H locs hP hD hS => ?_)
      have hP : va_P (dC, dI) vwCl (w_WD K q_t q_t_bits q_t_closings f_t_bits f_t_closings z_t_bits (aw z_t_closings x0 (iA v1 1)) z_t_pairs) H := hP
      have hD : va_D A (w_WD K q_t q_t_bits q_t_closings f_t_bits f_t_closings z_t_bits (aw z_t_closings x0 (iA v1 1)) z_t_pairs) := hD
      obtain rfl := Option.some.inj hf
      rw [← hQ]
      exact W.vret hx hb hr (fun t ht hW => ⟨⟨rfl, by rw [ht]; exact hP⟩, hS.F ht⟩) hS.2.2 dWD_closeAfter_23
noncomputable def b_WD_finish_6 (ih : Nat → Nat → Nat → Nat → Nat → Nat → Option (Nat × Nat)) (z_t_bits : Nat) (z_t_closings : Nat) (z_t_pairs : Nat) (l1 : Nat) (l2 : Nat) (l3 : Nat) (y_t_bits : Nat) : Option (Nat × Nat) := (bif iLt z_t_pairs l3 then (bif iEq l2 z_t_pairs then some (1, y_t_bits) else some (0, y_t_bits)) else (rd z_t_closings 10 l3 (fun v1 => (bif iLt l3 (iA l2 v1) then some (0, y_t_bits) else (bif Nat.blt l1 18 then (fz (iA l1 1) (fun u2 => fz (iA l2 v1) (fun u3 => fz (aw y_t_bits l1 1) (fun u4 => ih 1 u2 u3 l3 0 u4)))) else none)))))
noncomputable def b_WD_finish_43 (ih : Nat → Nat → Nat → Nat → Nat → Nat → Option (Nat × Nat)) (z_t_bits : Nat) (z_t_closings : Nat) (z_t_pairs : Nat) (l1 : Nat) (l2 : Nat) (l3 : Nat) (l4 : Nat) (y_t_bits : Nat) : Option (Nat × Nat) := (rd z_t_closings 10 l3 (fun v5 => (bif iLt l4 v5 then (bif Nat.blt l1 18 then (fz (iA l1 1) (fun u7 => fz (iA l4 1) (fun u8 => fz (aw y_t_bits l1 0) (fun u9 => ih 1 u7 l2 l3 u8 u9)))) else none) else (fz (iA l3 1) (fun u6 => ih 0 l1 l2 u6 y_t_bits 0)))))
noncomputable def fr_WD_finish (z_t_bits : Nat) (z_t_closings : Nat) (z_t_pairs : Nat) (k : Nat) : Nat → Nat → Nat → Nat → Nat → Nat → Option (Nat × Nat) := Nat.rec (motive := fun _ => Nat → Nat → Nat → Nat → Nat → Nat → Option (Nat × Nat)) (fun _ _ _ _ _ _ => none) (fun _ ih hh a0 a1 a2 a3 a4 => (Nat.rec (motive := fun _ => Option (Nat × Nat)) (b_WD_finish_6 ih z_t_bits z_t_closings z_t_pairs a0 a1 a2 a3) (fun h0 _ => (Nat.rec (motive := fun _ => Option (Nat × Nat)) (b_WD_finish_43 ih z_t_bits z_t_closings z_t_pairs a0 a1 a2 a3 a4) (fun h1 _ => none) h0)) hh)) k
theorem frs_WD_finish_6 (z_t_bits : Nat) (z_t_closings : Nat) (z_t_pairs : Nat) (k : Nat) (l1 : Nat) (l2 : Nat) (l3 : Nat) (y_t_bits : Nat) : fr_WD_finish z_t_bits z_t_closings z_t_pairs (k + 1) 0 l1 l2 l3 y_t_bits 0 = b_WD_finish_6 (fr_WD_finish z_t_bits z_t_closings z_t_pairs k) z_t_bits z_t_closings z_t_pairs l1 l2 l3 y_t_bits := rfl
theorem frs_WD_finish_43 (z_t_bits : Nat) (z_t_closings : Nat) (z_t_pairs : Nat) (k : Nat) (l1 : Nat) (l2 : Nat) (l3 : Nat) (l4 : Nat) (y_t_bits : Nat) : fr_WD_finish z_t_bits z_t_closings z_t_pairs (k + 1) 1 l1 l2 l3 l4 y_t_bits = b_WD_finish_43 (fr_WD_finish z_t_bits z_t_closings z_t_pairs k) z_t_bits z_t_closings z_t_pairs l1 l2 l3 l4 y_t_bits := rfl
noncomputable def e_WD_finish (ih : Nat → Nat → Nat → Nat → Nat → Nat → Option (Nat × Nat)) (z_t_bits : Nat) (z_t_closings : Nat) (z_t_pairs : Nat) : Option (Nat × Nat) := (ih 0 0 0 1 z_t_bits 0)
noncomputable def f_WD_finish (z_t_bits : Nat) (z_t_closings : Nat) (z_t_pairs : Nat) : Option (Nat × Nat) := e_WD_finish (fr_WD_finish z_t_bits z_t_closings z_t_pairs 1000000) z_t_bits z_t_closings z_t_pairs
abbrev rm_WD_finish : Room := { frames := 0, cells := 0, slots := 0, locals := 0 }
set_option maxHeartbeats 4000000 in
set_option maxRecDepth 100000 in
theorem ct_WD_finish (l : Launch) (dC : Nat → ClassId) (dI : Nat → Nat → Nat) (K : Nat → ClassId) (q_t : Nat) (q_t_bits : Nat) (q_t_closings : Nat) (f_t_bits : Nat → Int32) (f_t_closings : Nat → Int32) (z_t_bits : Nat) (z_t_closings : Nat) (z_t_pairs : Nat) (r : Nat × Nat) (hf : f_WD_finish z_t_bits z_t_closings z_t_pairs = some r) : Ct l (dC, dI) vwCl yWD_finish wc_WD_finish rm_WD_finish (tyK K) [.ref q_t] (w_WD K q_t q_t_bits q_t_closings f_t_bits f_t_closings z_t_bits z_t_closings z_t_pairs) (w_WD K q_t q_t_bits q_t_closings f_t_bits f_t_closings r.2 z_t_closings z_t_pairs) (some (.int (nI r.1))) := by
  intro sz
  refine Met.ofW (cc := cWD_finish) (maxL := 5) (ret := (some .boolean)) (by decide) rfl ?_
  intro p e s m args below meth c s₁ B hml hv
  obtain ⟨rfl, hsz, hP, hK, hD0⟩ := hv
  have hx := B.exec
  have hb := B.bytes
  have hr := B.returns
  have hts := atoms_spec (ws := wc_WD_finish) B.pre
  have hws : ∀ w ∈ WS, w.before _ s = true := fun w h => hts w (List.mem_cons_of_mem _ h)
  have hown : s.vm.findClass RWD = some m.cls := findClass_of_methodNamed B.named
  have hlocks := B.notSynchronized
  subst hsz
  have hD := hD0.self (sz := s.heap.size)
  generalize hAe : va_A (w_WD K q_t q_t_bits q_t_closings f_t_bits f_t_closings z_t_bits z_t_closings z_t_pairs) s.heap.size = A at hD ⊢
  have hA : ∀ q : Nat, s.heap.size ≤ q → A q := fun q h => by rw [← hAe]; exact Or.inr h
  have hS : va_S A s.heap s.heap [] := va_S.rf
  have hl := lv_entry ([.ref q_t]) (n := 5) (Nat.le_of_ble_eq_true rfl)
  rw [lg_entry_eq]
  generalize (lg_sl ([.ref q_t]) ++ List.replicate (5 - (lg_sl ([.ref q_t])).length) Slot.unset).toArray = ls at hl ⊢
  have hl : lv_has ls 5 [(0, .ref q_t)] := hl
  generalize ([.ref q_t] : List Value).toArray = args at hts hws ⊢
  generalize hQ : MQ below _ _ _ _ _ _ = Q
  have hb_6 : ∀ (ih : Nat → Nat → Nat → Nat → Nat → Nat → Option (Nat × Nat)) (IH : (∀ (l1 l2 l3 y_t_bits : Nat) (H : Heap) (locs : List Loc) (ls : Array Slot), ih 0 l1 l2 l3 y_t_bits 0 = some r → lv_has ls 5 [(0, .ref q_t), (1, .int (nI l1)), (2, .int (nI l2)), (3, .int (nI l3))] → va_P (dC, dI) vwCl (w_WD K q_t q_t_bits q_t_closings f_t_bits f_t_closings y_t_bits z_t_closings z_t_pairs) H → va_D A (w_WD K q_t q_t_bits q_t_closings f_t_bits f_t_closings y_t_bits z_t_closings z_t_pairs) → va_S A s.heap H locs → W p l e (headSpec wc_WD_finish rm_WD_finish).room s m args below meth c H locs 0 0 Q (F0 m 6 ls [])) ∧ (∀ (l1 l2 l3 l4 y_t_bits : Nat) (H : Heap) (locs : List Loc) (ls : Array Slot), ih 1 l1 l2 l3 l4 y_t_bits = some r → lv_has ls 5 [(0, .ref q_t), (1, .int (nI l1)), (2, .int (nI l2)), (3, .int (nI l3)), (4, .int (nI l4))] → va_P (dC, dI) vwCl (w_WD K q_t q_t_bits q_t_closings f_t_bits f_t_closings y_t_bits z_t_closings z_t_pairs) H → va_D A (w_WD K q_t q_t_bits q_t_closings f_t_bits f_t_closings y_t_bits z_t_closings z_t_pairs) → va_S A s.heap H locs → W p l e (headSpec wc_WD_finish rm_WD_finish).room s m args below meth c H locs 0 0 Q (F0 m 43 ls []))), ∀ (l1 l2 l3 y_t_bits : Nat) (H : Heap) (locs : List Loc) (ls : Array Slot), b_WD_finish_6 ih z_t_bits z_t_closings z_t_pairs l1 l2 l3 y_t_bits = some r → lv_has ls 5 [(0, .ref q_t), (1, .int (nI l1)), (2, .int (nI l2)), (3, .int (nI l3))] → va_P (dC, dI) vwCl (w_WD K q_t q_t_bits q_t_closings f_t_bits f_t_closings y_t_bits z_t_closings z_t_pairs) H → va_D A (w_WD K q_t q_t_bits q_t_closings f_t_bits f_t_closings y_t_bits z_t_closings z_t_pairs) → va_S A s.heap H locs → W p l e (headSpec wc_WD_finish rm_WD_finish).room s m args below meth c H locs 0 0 Q (F0 m 6 ls []) := by
    intro ih IH l1 l2 l3 y_t_bits H locs ls hf hl hP hD hS
    unfold b_WD_finish_6 at hf
    refine lv_iload_n hx hb dWD_finish_6 rfl (lv_at hl 3 rfl) ?_
    refine lv_aload_n hx hb dWD_finish_7 rfl (lv_at hl 0 rfl) ?_
    refine va_get (D := (dC, dI)) (ci := 8) (v := .int (nI z_t_pairs)) (C := RWD) (T := TWD) (N := 3) hx hb hws uwWD hown hK hP 0 rfl rfl 2 (by decide) (hws _ kf_WD_18) (fun _ h9 => h9) rfl dWD_finish_8 ?_
    refine lx_icmp_gt (tgt := 76) hx hb dWD_finish_11 (by decide) hf (fun hf => ?_) (fun hf => ?_)
    · refine lv_iload_n hx hb dWD_finish_76 rfl (lv_at hl 2 rfl) ?_
      refine lv_aload_n hx hb dWD_finish_77 rfl (lv_at hl 0 rfl) ?_
      refine va_get (D := (dC, dI)) (ci := 8) (v := .int (nI z_t_pairs)) (C := RWD) (T := TWD) (N := 3) hx hb hws uwWD hown hK hP 0 rfl rfl 2 (by decide) (hws _ kf_WD_18) (fun _ h9 => h9) rfl dWD_finish_78 ?_
      refine lx_icmp_ne (tgt := 88) hx hb dWD_finish_81 (by decide) hf (fun hf => ?_) (fun hf => ?_)
      · refine lv_iconst (v := nI 0) hx hb dWD_finish_88 (by decide +kernel) ?_
        obtain rfl := Option.some.inj hf
        rw [← hQ]
        exact W.zret (ty := .boolean) (v := nI 0) hx hb hr (by decide +kernel) (fun t ht hW => ⟨⟨rfl, by rw [ht]; exact hP⟩, hS.F ht⟩) hS.2.2 dWD_finish_89
      · refine lv_iconst (v := nI 1) hx hb dWD_finish_84 (by decide +kernel) ?_
        refine lv_goto (tgt := 89) hx hb dWD_finish_85 (by decide) ?_
        obtain rfl := Option.some.inj hf
        rw [← hQ]
        exact W.zret (ty := .boolean) (v := nI 1) hx hb hr (by decide +kernel) (fun t ht hW => ⟨⟨rfl, by rw [ht]; exact hP⟩, hS.F ht⟩) hS.2.2 dWD_finish_89
    · refine lv_iload_n hx hb dWD_finish_14 rfl (lv_at hl 2 rfl) ?_
      refine lv_aload_n hx hb dWD_finish_15 rfl (lv_at hl 0 rfl) ?_
      refine va_get (D := (dC, dI)) (ci := 8) (v := .ref q_t_closings) (C := RWD) (T := TWD) (N := 3) hx hb hws uwWD hown hK hP 0 rfl rfl 1 (by decide) (hws _ kf_WD_15) (fun _ h9 => h9) rfl dWD_finish_16 ?_
      refine lv_iload_n hx hb dWD_finish_19 rfl (lv_at hl 3 rfl) ?_
      refine lx_iald hx hb hK hP 2 0 rfl rfl (by decide) dWD_finish_20 hf (fun v1 _ hf => ?_)
      refine lx_iadd hx hb dWD_finish_21 ?_
      refine lv_istore_n hx hb dWD_finish_22 rfl hl (by decide) rfl (fun ls hl => ?_)
      refine lv_iload_n hx hb dWD_finish_23 rfl (lv_at hl 0 rfl) ?_
      refine lv_iload_n hx hb dWD_finish_24 rfl (lv_at hl 3 rfl) ?_
      refine lx_icmp_le (tgt := 30) hx hb dWD_finish_25 (by decide) hf (fun hf => ?_) (fun hf => ?_)
      · refine lv_aload_n hx hb dWD_finish_30 rfl (lv_at hl 1 rfl) ?_
        refine va_get (D := (dC, dI)) (ci := 8) (v := .ref q_t_bits) (C := RWD) (T := TWD) (N := 3) hx hb hws uwWD hown hK hP 0 rfl rfl 0 (by decide) (hws _ kf_WD_9) (fun _ h9 => h9) rfl dWD_finish_31 ?_
        refine lv_iload_n hx hb dWD_finish_34 rfl (lv_at hl 2 rfl) ?_
        refine lx_iinc (k := 2) (d := 1) hx hb dWD_finish_35 hl rfl (by decide +kernel) (by decide) rfl (fun ls hl => ?_)
        refine lv_iconst (v := nI 1) hx hb dWD_finish_38 (by decide +kernel) ?_
        refine lx_iast hx hb hK hP hD hS 1 0 rfl rfl (by decide) dWD_finish_39 hf (fun hf H locs hP hD hS => ?_)
        have hP : va_P (dC, dI) vwCl (w_WD K q_t q_t_bits q_t_closings f_t_bits f_t_closings (aw y_t_bits l1 1) z_t_closings z_t_pairs) H := hP
        have hD : va_D A (w_WD K q_t q_t_bits q_t_closings f_t_bits f_t_closings (aw y_t_bits l1 1) z_t_closings z_t_pairs) := hD
        refine lv_iconst (v := nI 0) hx hb dWD_finish_40 (by decide +kernel) ?_
        refine lv_istore hx hb dWD_finish_41 hl (by decide) rfl (fun ls hl => ?_)
        have hf := fz_s hf
        have hf := fz_s hf
        have hf := fz_s hf
        exact IH.2 (iA l1 1) (iA l2 v1) l3 0 (aw y_t_bits l1 1) _ _ _ hf (lv_sub hl [3, 1, 2, 4, 0] rfl) hP hD hS
      · refine lv_iconst (v := nI 0) hx hb dWD_finish_28 (by decide +kernel) ?_
        obtain rfl := Option.some.inj hf
        rw [← hQ]
        exact W.zret (ty := .boolean) (v := nI 0) hx hb hr (by decide +kernel) (fun t ht hW => ⟨⟨rfl, by rw [ht]; exact hP⟩, hS.F ht⟩) hS.2.2 dWD_finish_29
  have hb_43 : ∀ (ih : Nat → Nat → Nat → Nat → Nat → Nat → Option (Nat × Nat)) (IH : (∀ (l1 l2 l3 y_t_bits : Nat) (H : Heap) (locs : List Loc) (ls : Array Slot), ih 0 l1 l2 l3 y_t_bits 0 = some r → lv_has ls 5 [(0, .ref q_t), (1, .int (nI l1)), (2, .int (nI l2)), (3, .int (nI l3))] → va_P (dC, dI) vwCl (w_WD K q_t q_t_bits q_t_closings f_t_bits f_t_closings y_t_bits z_t_closings z_t_pairs) H → va_D A (w_WD K q_t q_t_bits q_t_closings f_t_bits f_t_closings y_t_bits z_t_closings z_t_pairs) → va_S A s.heap H locs → W p l e (headSpec wc_WD_finish rm_WD_finish).room s m args below meth c H locs 0 0 Q (F0 m 6 ls [])) ∧ (∀ (l1 l2 l3 l4 y_t_bits : Nat) (H : Heap) (locs : List Loc) (ls : Array Slot), ih 1 l1 l2 l3 l4 y_t_bits = some r → lv_has ls 5 [(0, .ref q_t), (1, .int (nI l1)), (2, .int (nI l2)), (3, .int (nI l3)), (4, .int (nI l4))] → va_P (dC, dI) vwCl (w_WD K q_t q_t_bits q_t_closings f_t_bits f_t_closings y_t_bits z_t_closings z_t_pairs) H → va_D A (w_WD K q_t q_t_bits q_t_closings f_t_bits f_t_closings y_t_bits z_t_closings z_t_pairs) → va_S A s.heap H locs → W p l e (headSpec wc_WD_finish rm_WD_finish).room s m args below meth c H locs 0 0 Q (F0 m 43 ls []))), ∀ (l1 l2 l3 l4 y_t_bits : Nat) (H : Heap) (locs : List Loc) (ls : Array Slot), b_WD_finish_43 ih z_t_bits z_t_closings z_t_pairs l1 l2 l3 l4 y_t_bits = some r → lv_has ls 5 [(0, .ref q_t), (1, .int (nI l1)), (2, .int (nI l2)), (3, .int (nI l3)), (4, .int (nI l4))] → va_P (dC, dI) vwCl (w_WD K q_t q_t_bits q_t_closings f_t_bits f_t_closings y_t_bits z_t_closings z_t_pairs) H → va_D A (w_WD K q_t q_t_bits q_t_closings f_t_bits f_t_closings y_t_bits z_t_closings z_t_pairs) → va_S A s.heap H locs → W p l e (headSpec wc_WD_finish rm_WD_finish).room s m args below meth c H locs 0 0 Q (F0 m 43 ls []) := by
    intro ih IH l1 l2 l3 l4 y_t_bits H locs ls hf hl hP hD hS
    unfold b_WD_finish_43 at hf
    refine lv_iload hx hb dWD_finish_43 (lv_at hl 4 rfl) ?_
    refine lv_aload_n hx hb dWD_finish_45 rfl (lv_at hl 0 rfl) ?_
    refine va_get (D := (dC, dI)) (ci := 8) (v := .ref q_t_closings) (C := RWD) (T := TWD) (N := 3) hx hb hws uwWD hown hK hP 0 rfl rfl 1 (by decide) (hws _ kf_WD_15) (fun _ h9 => h9) rfl dWD_finish_46 ?_
    refine lv_iload_n hx hb dWD_finish_49 rfl (lv_at hl 3 rfl) ?_
    refine lx_iald hx hb hK hP 2 0 rfl rfl (by decide) dWD_finish_50 hf (fun v5 _ hf => ?_)
    refine lx_icmp_ge (tgt := 70) hx hb dWD_finish_51 (by decide) hf (fun hf => ?_) (fun hf => ?_)
    · refine lx_iinc (k := 3) (d := 1) hx hb dWD_finish_70 hl rfl (by decide +kernel) (by decide) rfl (fun ls hl => ?_)
      refine lv_goto (tgt := 6) hx hb dWD_finish_73 (by decide) ?_
      have hf := fz_s hf
      exact IH.1 l1 l2 (iA l3 1) y_t_bits _ _ _ hf (lv_sub hl [1, 2, 3, 0] rfl) hP hD hS
    · refine lv_aload_n hx hb dWD_finish_54 rfl (lv_at hl 0 rfl) ?_
      refine va_get (D := (dC, dI)) (ci := 8) (v := .ref q_t_bits) (C := RWD) (T := TWD) (N := 3) hx hb hws uwWD hown hK hP 0 rfl rfl 0 (by decide) (hws _ kf_WD_9) (fun _ h9 => h9) rfl dWD_finish_55 ?_
      refine lv_iload_n hx hb dWD_finish_58 rfl (lv_at hl 1 rfl) ?_
      refine lx_iinc (k := 1) (d := 1) hx hb dWD_finish_59 hl rfl (by decide +kernel) (by decide) rfl (fun ls hl => ?_)
      refine lv_iconst (v := nI 0) hx hb dWD_finish_62 (by decide +kernel) ?_
      refine lx_iast hx hb hK hP hD hS 1 0 rfl rfl (by decide) dWD_finish_63 hf (fun hf H locs hP hD hS => ?_)
      have hP : va_P (dC, dI) vwCl (w_WD K q_t q_t_bits q_t_closings f_t_bits f_t_closings (aw y_t_bits l1 0) z_t_closings z_t_pairs) H := hP
      have hD : va_D A (w_WD K q_t q_t_bits q_t_closings f_t_bits f_t_closings (aw y_t_bits l1 0) z_t_closings z_t_pairs) := hD
      refine lx_iinc (k := 4) (d := 1) hx hb dWD_finish_64 hl rfl (by decide +kernel) (by decide) rfl (fun ls hl => ?_)
      refine lv_goto (tgt := 43) hx hb dWD_finish_67 (by decide) ?_
      have hf := fz_s hf
      have hf := fz_s hf
      have hf := fz_s hf
      exact IH.2 (iA l1 1) l2 l3 (iA l4 1) (aw y_t_bits l1 0) _ _ _ hf (lv_sub hl [2, 1, 3, 4, 0] rfl) hP hD hS
  have key : ∀ k : Nat, (∀ (l1 l2 l3 y_t_bits : Nat) (H : Heap) (locs : List Loc) (ls : Array Slot), fr_WD_finish z_t_bits z_t_closings z_t_pairs k 0 l1 l2 l3 y_t_bits 0 = some r → lv_has ls 5 [(0, .ref q_t), (1, .int (nI l1)), (2, .int (nI l2)), (3, .int (nI l3))] → va_P (dC, dI) vwCl (w_WD K q_t q_t_bits q_t_closings f_t_bits f_t_closings y_t_bits z_t_closings z_t_pairs) H → va_D A (w_WD K q_t q_t_bits q_t_closings f_t_bits f_t_closings y_t_bits z_t_closings z_t_pairs) → va_S A s.heap H locs → W p l e (headSpec wc_WD_finish rm_WD_finish).room s m args below meth c H locs 0 0 Q (F0 m 6 ls [])) ∧ (∀ (l1 l2 l3 l4 y_t_bits : Nat) (H : Heap) (locs : List Loc) (ls : Array Slot), fr_WD_finish z_t_bits z_t_closings z_t_pairs k 1 l1 l2 l3 l4 y_t_bits = some r → lv_has ls 5 [(0, .ref q_t), (1, .int (nI l1)), (2, .int (nI l2)), (3, .int (nI l3)), (4, .int (nI l4))] → va_P (dC, dI) vwCl (w_WD K q_t q_t_bits q_t_closings f_t_bits f_t_closings y_t_bits z_t_closings z_t_pairs) H → va_D A (w_WD K q_t q_t_bits q_t_closings f_t_bits f_t_closings y_t_bits z_t_closings z_t_pairs) → va_S A s.heap H locs → W p l e (headSpec wc_WD_finish rm_WD_finish).room s m args below meth c H locs 0 0 Q (F0 m 43 ls [])) := by
    intro k
    induction k with
    | zero => exact ⟨fun l1 l2 l3 y_t_bits H locs ls hf _ _ _ _ => no_s (α := Nat × Nat) (r := r) hf, fun l1 l2 l3 l4 y_t_bits H locs ls hf _ _ _ _ => no_s (α := Nat × Nat) (r := r) hf⟩
    | succ k IH => exact ⟨fun l1 l2 l3 y_t_bits H locs ls hf => hb_6 (fr_WD_finish z_t_bits z_t_closings z_t_pairs k) IH l1 l2 l3 y_t_bits H locs ls ((frs_WD_finish_6 z_t_bits z_t_closings z_t_pairs k l1 l2 l3 y_t_bits).symm.trans hf), fun l1 l2 l3 l4 y_t_bits H locs ls hf => hb_43 (fr_WD_finish z_t_bits z_t_closings z_t_pairs k) IH l1 l2 l3 l4 y_t_bits H locs ls ((frs_WD_finish_43 z_t_bits z_t_closings z_t_pairs k l1 l2 l3 l4 y_t_bits).symm.trans hf)⟩
  have IH := key 1000000
  have hf : e_WD_finish (fr_WD_finish z_t_bits z_t_closings z_t_pairs 1000000) z_t_bits z_t_closings z_t_pairs = some r := hf
  unfold e_WD_finish at hf
  generalize fr_WD_finish z_t_bits z_t_closings z_t_pairs 1000000 = ih at hf IH
  refine lv_iconst (v := nI 0) hx hb dWD_finish_0 (by decide +kernel) ?_
  refine lv_istore_n hx hb dWD_finish_1 rfl hl (by decide) rfl (fun ls hl => ?_)
  refine lv_iconst (v := nI 0) hx hb dWD_finish_2 (by decide +kernel) ?_
  refine lv_istore_n hx hb dWD_finish_3 rfl hl (by decide) rfl (fun ls hl => ?_)
  refine lv_iconst (v := nI 1) hx hb dWD_finish_4 (by decide +kernel) ?_
  refine lv_istore_n hx hb dWD_finish_5 rfl hl (by decide) rfl (fun ls hl => ?_)
  exact IH.1 0 0 1 z_t_bits _ _ _ hf (lv_sub hl [3, 2, 1, 0] rfl) hP hD hS
noncomputable def f_WD_isOne (x0 : Nat) (z_t_bits : Nat) (z_t_pairs : Nat) : Option (Nat) := (bif iLt x0 0 then some 0 else (Option.bind (f_WD_length z_t_pairs) (fun q1 => (bif iLt x0 q1 then (rd z_t_bits 18 x0 (fun v2 => (bif iEq v2 1 then some 1 else some 0))) else some 0))))
abbrev rm_WD_isOne : Room := { frames := 1, cells := 0, slots := 0, locals := 20 }
set_option maxHeartbeats 4000000 in
set_option maxRecDepth 100000 in
theorem ct_WD_isOne (l : Launch) (dC : Nat → ClassId) (dI : Nat → Nat → Nat) (K : Nat → ClassId) (q_t : Nat) (q_t_bits : Nat) (q_t_closings : Nat) (f_t_bits : Nat → Int32) (f_t_closings : Nat → Int32) (x0 : Nat) (z_t_bits : Nat) (z_t_closings : Nat) (z_t_pairs : Nat) (r : Nat) (hf : f_WD_isOne x0 z_t_bits z_t_pairs = some r) : Ct l (dC, dI) vwCl yWD_isOne wc_WD_isOne rm_WD_isOne (tyK K) [.ref q_t, .int (nI x0)] (w_WD K q_t q_t_bits q_t_closings f_t_bits f_t_closings z_t_bits z_t_closings z_t_pairs) (w_WD K q_t q_t_bits q_t_closings f_t_bits f_t_closings z_t_bits z_t_closings z_t_pairs) (some (.int (nI r))) := by
  intro sz
  refine Met.ofW (cc := cWD_isOne) (maxL := 2) (ret := (some .boolean)) (by decide) rfl ?_
  intro p e s m args below meth c s₁ B hml hv
  obtain ⟨rfl, hsz, hP, hK, hD0⟩ := hv
  have hx := B.exec
  have hb := B.bytes
  have hr := B.returns
  have hts := atoms_spec (ws := wc_WD_isOne) B.pre
  have hws : ∀ w ∈ WS, w.before _ s = true := fun w h => hts w (List.mem_cons_of_mem _ h)
  have hown : s.vm.findClass RWD = some m.cls := findClass_of_methodNamed B.named
  have hlocks := B.notSynchronized
  subst hsz
  have hD := hD0.self (sz := s.heap.size)
  generalize hAe : va_A (w_WD K q_t q_t_bits q_t_closings f_t_bits f_t_closings z_t_bits z_t_closings z_t_pairs) s.heap.size = A at hD ⊢
  have hA : ∀ q : Nat, s.heap.size ≤ q → A q := fun q h => by rw [← hAe]; exact Or.inr h
  have hS : va_S A s.heap s.heap [] := va_S.rf
  have hl := lv_entry ([.ref q_t, .int (nI x0)]) (n := 2) (Nat.le_of_ble_eq_true rfl)
  rw [lg_entry_eq]
  generalize (lg_sl ([.ref q_t, .int (nI x0)]) ++ List.replicate (2 - (lg_sl ([.ref q_t, .int (nI x0)])).length) Slot.unset).toArray = ls at hl ⊢
  have hl : lv_has ls 2 [(0, .ref q_t), (1, .int (nI x0))] := hl
  generalize ([.ref q_t, .int (nI x0)] : List Value).toArray = args at hts hws ⊢
  generalize hQ : MQ below _ _ _ _ _ _ = Q
  unfold f_WD_isOne at hf
  refine lv_iload_n hx hb dWD_isOne_0 rfl (lv_at hl 1 rfl) ?_
  refine lx_if_lt (tgt := 26) hx hb dWD_isOne_1 (by decide) hf (fun hf => ?_) (fun hf => ?_)
  · refine lv_iconst (v := nI 0) hx hb dWD_isOne_26 (by decide +kernel) ?_
    obtain rfl := Option.some.inj hf
    rw [← hQ]
    exact W.zret (ty := .boolean) (v := nI 0) hx hb hr (by decide +kernel) (fun t ht hW => ⟨⟨rfl, by rw [ht]; exact hP⟩, hS.F ht⟩) hS.2.2 dWD_isOne_27
  · refine lv_iload_n hx hb dWD_isOne_4 rfl (lv_at hl 1 rfl) ?_
    refine lv_aload_n hx hb dWD_isOne_5 rfl (lv_at hl 0 rfl) ?_
    obtain ⟨q1, hq, hf⟩ := bd_s hf
    refine ct_callr (ws' := w_WD K q_t q_t_bits q_t_closings f_t_bits f_t_closings z_t_bits z_t_closings z_t_pairs) (va_runV (As := []) (rest := [.int (nI x0)]) ⟨hx, hb, hml, hown, hws⟩ (ct_WD_length l dC dI K q_t q_t_bits q_t_closings f_t_bits f_t_closings z_t_bits z_t_closings z_t_pairs q1 hq _) ⟨cb_WD_length hws rm_WD_length (hws _ km_WD_28) ⟨Nat.le_of_ble_eq_true rfl, Nat.le_of_ble_eq_true rfl⟩, hws _ ki_WD_length, hws _ ke_WD_WD_length_WD_length⟩ ⟨ct_blind _ _ _, va_recv (ci := 8) (q0 := 0) (q := (RWD, TWD, 3)) hK hP rfl rfl, ct_pre (cs := (w_WD K q_t q_t_bits q_t_closings f_t_bits f_t_closings z_t_bits z_t_closings z_t_pairs)) hP hD hK [0, 1, 2] (by decide) rfl _⟩ rfl rfl hl.1 rfl (lv_room (Nat.le_of_ble_eq_true rfl)) dWD_isOne_6 ⟨Nat.le_of_ble_eq_true rfl, Nat.le_of_ble_eq_true rfl⟩) hP hD hS hA [0, 1, 2] rfl rfl rfl rfl (fun H locs hP hD hS => ?_)
    refine lx_icmp_ge (tgt := 26) hx hb dWD_isOne_9 (by decide) hf (fun hf => ?_) (fun hf => ?_)
    · refine lv_iconst (v := nI 0) hx hb dWD_isOne_26 (by decide +kernel) ?_
      obtain rfl := Option.some.inj hf
      rw [← hQ]
      exact W.zret (ty := .boolean) (v := nI 0) hx hb hr (by decide +kernel) (fun t ht hW => ⟨⟨rfl, by rw [ht]; exact hP⟩, hS.F ht⟩) hS.2.2 dWD_isOne_27
    · refine lv_aload_n hx hb dWD_isOne_12 rfl (lv_at hl 0 rfl) ?_
      refine va_get (D := (dC, dI)) (ci := 8) (v := .ref q_t_bits) (C := RWD) (T := TWD) (N := 3) hx hb hws uwWD hown hK hP 0 rfl rfl 0 (by decide) (hws _ kf_WD_9) (fun _ h9 => h9) rfl dWD_isOne_13 ?_
      refine lv_iload_n hx hb dWD_isOne_16 rfl (lv_at hl 1 rfl) ?_
      refine lx_iald hx hb hK hP 1 0 rfl rfl (by decide) dWD_isOne_17 hf (fun v2 _ hf => ?_)
      refine lv_iconst (v := nI 1) hx hb dWD_isOne_18 (by decide +kernel) ?_
      refine lx_icmp_ne (tgt := 26) hx hb dWD_isOne_19 (by decide) hf (fun hf => ?_) (fun hf => ?_)
      · refine lv_iconst (v := nI 0) hx hb dWD_isOne_26 (by decide +kernel) ?_
        obtain rfl := Option.some.inj hf
        rw [← hQ]
        exact W.zret (ty := .boolean) (v := nI 0) hx hb hr (by decide +kernel) (fun t ht hW => ⟨⟨rfl, by rw [ht]; exact hP⟩, hS.F ht⟩) hS.2.2 dWD_isOne_27
      · refine lv_iconst (v := nI 1) hx hb dWD_isOne_22 (by decide +kernel) ?_
        refine lv_goto (tgt := 27) hx hb dWD_isOne_23 (by decide) ?_
        obtain rfl := Option.some.inj hf
        rw [← hQ]
        exact W.zret (ty := .boolean) (v := nI 1) hx hb hr (by decide +kernel) (fun t ht hW => ⟨⟨rfl, by rw [ht]; exact hP⟩, hS.F ht⟩) hS.2.2 dWD_isOne_27
noncomputable def f_WD_closingsAfter (x0 : Nat) (z_t_closings : Nat) (z_t_pairs : Nat) : Option (Nat) := (bif iLt x0 1 then some 0 else (bif iLt z_t_pairs x0 then some 0 else (rd z_t_closings 10 x0 (fun v1 => some v1))))
abbrev rm_WD_closingsAfter : Room := { frames := 0, cells := 0, slots := 0, locals := 0 }
set_option maxHeartbeats 4000000 in
set_option maxRecDepth 100000 in
theorem ct_WD_closingsAfter (l : Launch) (dC : Nat → ClassId) (dI : Nat → Nat → Nat) (K : Nat → ClassId) (q_t : Nat) (q_t_bits : Nat) (q_t_closings : Nat) (f_t_bits : Nat → Int32) (f_t_closings : Nat → Int32) (x0 : Nat) (z_t_bits : Nat) (z_t_closings : Nat) (z_t_pairs : Nat) (r : Nat) (hf : f_WD_closingsAfter x0 z_t_closings z_t_pairs = some r) : Ct l (dC, dI) vwCl yWD_closingsAfter wc_WD_closingsAfter rm_WD_closingsAfter (tyK K) [.ref q_t, .int (nI x0)] (w_WD K q_t q_t_bits q_t_closings f_t_bits f_t_closings z_t_bits z_t_closings z_t_pairs) (w_WD K q_t q_t_bits q_t_closings f_t_bits f_t_closings z_t_bits z_t_closings z_t_pairs) (some (.int (nI r))) := by
  intro sz
  refine Met.ofW (cc := cWD_closingsAfter) (maxL := 2) (ret := (some .int)) (by decide) rfl ?_
  intro p e s m args below meth c s₁ B hml hv
  obtain ⟨rfl, hsz, hP, hK, hD0⟩ := hv
  have hx := B.exec
  have hb := B.bytes
  have hr := B.returns
  have hts := atoms_spec (ws := wc_WD_closingsAfter) B.pre
  have hws : ∀ w ∈ WS, w.before _ s = true := fun w h => hts w (List.mem_cons_of_mem _ h)
  have hown : s.vm.findClass RWD = some m.cls := findClass_of_methodNamed B.named
  have hlocks := B.notSynchronized
  subst hsz
  have hD := hD0.self (sz := s.heap.size)
  generalize hAe : va_A (w_WD K q_t q_t_bits q_t_closings f_t_bits f_t_closings z_t_bits z_t_closings z_t_pairs) s.heap.size = A at hD ⊢
  have hA : ∀ q : Nat, s.heap.size ≤ q → A q := fun q h => by rw [← hAe]; exact Or.inr h
  have hS : va_S A s.heap s.heap [] := va_S.rf
  have hl := lv_entry ([.ref q_t, .int (nI x0)]) (n := 2) (Nat.le_of_ble_eq_true rfl)
  rw [lg_entry_eq]
  generalize (lg_sl ([.ref q_t, .int (nI x0)]) ++ List.replicate (2 - (lg_sl ([.ref q_t, .int (nI x0)])).length) Slot.unset).toArray = ls at hl ⊢
  have hl : lv_has ls 2 [(0, .ref q_t), (1, .int (nI x0))] := hl
  generalize ([.ref q_t, .int (nI x0)] : List Value).toArray = args at hts hws ⊢
  generalize hQ : MQ below _ _ _ _ _ _ = Q
  unfold f_WD_closingsAfter at hf
  refine lv_iload_n hx hb dWD_closingsAfter_0 rfl (lv_at hl 1 rfl) ?_
  refine lv_iconst (v := nI 1) hx hb dWD_closingsAfter_1 (by decide +kernel) ?_
  refine lx_icmp_lt (tgt := 22) hx hb dWD_closingsAfter_2 (by decide) hf (fun hf => ?_) (fun hf => ?_)
  · refine lv_iconst (v := nI 0) hx hb dWD_closingsAfter_22 (by decide +kernel) ?_
    obtain rfl := Option.some.inj hf
    rw [← hQ]
    exact W.iret (v := nI 0) hx hb hr (fun t ht hW => ⟨⟨rfl, by rw [ht]; exact hP⟩, hS.F ht⟩) hS.2.2 dWD_closingsAfter_23
  · refine lv_iload_n hx hb dWD_closingsAfter_5 rfl (lv_at hl 1 rfl) ?_
    refine lv_aload_n hx hb dWD_closingsAfter_6 rfl (lv_at hl 0 rfl) ?_
    refine va_get (D := (dC, dI)) (ci := 8) (v := .int (nI z_t_pairs)) (C := RWD) (T := TWD) (N := 3) hx hb hws uwWD hown hK hP 0 rfl rfl 2 (by decide) (hws _ kf_WD_18) (fun _ h9 => h9) rfl dWD_closingsAfter_7 ?_
    refine lx_icmp_gt (tgt := 22) hx hb dWD_closingsAfter_10 (by decide) hf (fun hf => ?_) (fun hf => ?_)
    · refine lv_iconst (v := nI 0) hx hb dWD_closingsAfter_22 (by decide +kernel) ?_
      obtain rfl := Option.some.inj hf
      rw [← hQ]
      exact W.iret (v := nI 0) hx hb hr (fun t ht hW => ⟨⟨rfl, by rw [ht]; exact hP⟩, hS.F ht⟩) hS.2.2 dWD_closingsAfter_23
    · refine lv_aload_n hx hb dWD_closingsAfter_13 rfl (lv_at hl 0 rfl) ?_
      refine va_get (D := (dC, dI)) (ci := 8) (v := .ref q_t_closings) (C := RWD) (T := TWD) (N := 3) hx hb hws uwWD hown hK hP 0 rfl rfl 1 (by decide) (hws _ kf_WD_15) (fun _ h9 => h9) rfl dWD_closingsAfter_14 ?_
      refine lv_iload_n hx hb dWD_closingsAfter_17 rfl (lv_at hl 1 rfl) ?_
      refine lx_iald hx hb hK hP 2 0 rfl rfl (by decide) dWD_closingsAfter_18 hf (fun v1 _ hf => ?_)
      refine lv_goto (tgt := 23) hx hb dWD_closingsAfter_19 (by decide) ?_
      obtain rfl := Option.some.inj hf
      rw [← hQ]
      exact W.iret (v := nI v1) hx hb hr (fun t ht hW => ⟨⟨rfl, by rw [ht]; exact hP⟩, hS.F ht⟩) hS.2.2 dWD_closingsAfter_23
noncomputable def b_WD_onesBefore_4 (ih : Nat → Nat → Nat → Option (Nat)) (x0 : Nat) (z_t_bits : Nat) (z_t_pairs : Nat) (l1 : Nat) (l2 : Nat) (l3 : Nat) : Option (Nat) := (bif iLt l3 l1 then (Option.bind (f_WD_length z_t_pairs) (fun q1 => (bif iLt l3 q1 then (rd z_t_bits 18 l3 (fun v2 => (fz (iA l2 v2) (fun u3 => fz (iA l3 1) (fun u4 => ih l1 u3 u4))))) else some l2))) else some l2)
noncomputable def fr_WD_onesBefore (x0 : Nat) (z_t_bits : Nat) (z_t_pairs : Nat) (k : Nat) : Nat → Nat → Nat → Option (Nat) := Nat.rec (motive := fun _ => Nat → Nat → Nat → Option (Nat)) (fun _ _ _ => none) (fun _ ih a0 a1 a2 => b_WD_onesBefore_4 ih x0 z_t_bits z_t_pairs a0 a1 a2) k
theorem frs_WD_onesBefore_4 (x0 : Nat) (z_t_bits : Nat) (z_t_pairs : Nat) (k : Nat) (l1 : Nat) (l2 : Nat) (l3 : Nat) : fr_WD_onesBefore x0 z_t_bits z_t_pairs (k + 1) l1 l2 l3 = b_WD_onesBefore_4 (fr_WD_onesBefore x0 z_t_bits z_t_pairs k) x0 z_t_bits z_t_pairs l1 l2 l3 := rfl
noncomputable def e_WD_onesBefore (ih : Nat → Nat → Nat → Option (Nat)) (x0 : Nat) (z_t_bits : Nat) (z_t_pairs : Nat) : Option (Nat) := (ih x0 0 0)
noncomputable def f_WD_onesBefore (x0 : Nat) (z_t_bits : Nat) (z_t_pairs : Nat) : Option (Nat) := e_WD_onesBefore (fr_WD_onesBefore x0 z_t_bits z_t_pairs 1000000) x0 z_t_bits z_t_pairs
abbrev rm_WD_onesBefore : Room := { frames := 1, cells := 0, slots := 0, locals := 20 }
set_option maxHeartbeats 4000000 in
set_option maxRecDepth 100000 in
theorem ct_WD_onesBefore (l : Launch) (dC : Nat → ClassId) (dI : Nat → Nat → Nat) (K : Nat → ClassId) (q_t : Nat) (q_t_bits : Nat) (q_t_closings : Nat) (f_t_bits : Nat → Int32) (f_t_closings : Nat → Int32) (x0 : Nat) (z_t_bits : Nat) (z_t_closings : Nat) (z_t_pairs : Nat) (r : Nat) (hf : f_WD_onesBefore x0 z_t_bits z_t_pairs = some r) : Ct l (dC, dI) vwCl yWD_onesBefore wc_WD_onesBefore rm_WD_onesBefore (tyK K) [.ref q_t, .int (nI x0)] (w_WD K q_t q_t_bits q_t_closings f_t_bits f_t_closings z_t_bits z_t_closings z_t_pairs) (w_WD K q_t q_t_bits q_t_closings f_t_bits f_t_closings z_t_bits z_t_closings z_t_pairs) (some (.int (nI r))) := by
  intro sz
  refine Met.ofW (cc := cWD_onesBefore) (maxL := 4) (ret := (some .int)) (by decide) rfl ?_
  intro p e s m args below meth c s₁ B hml hv
  obtain ⟨rfl, hsz, hP, hK, hD0⟩ := hv
  have hx := B.exec
  have hb := B.bytes
  have hr := B.returns
  have hts := atoms_spec (ws := wc_WD_onesBefore) B.pre
  have hws : ∀ w ∈ WS, w.before _ s = true := fun w h => hts w (List.mem_cons_of_mem _ h)
  have hown : s.vm.findClass RWD = some m.cls := findClass_of_methodNamed B.named
  have hlocks := B.notSynchronized
  subst hsz
  have hD := hD0.self (sz := s.heap.size)
  generalize hAe : va_A (w_WD K q_t q_t_bits q_t_closings f_t_bits f_t_closings z_t_bits z_t_closings z_t_pairs) s.heap.size = A at hD ⊢
  have hA : ∀ q : Nat, s.heap.size ≤ q → A q := fun q h => by rw [← hAe]; exact Or.inr h
  have hS : va_S A s.heap s.heap [] := va_S.rf
  have hl := lv_entry ([.ref q_t, .int (nI x0)]) (n := 4) (Nat.le_of_ble_eq_true rfl)
  rw [lg_entry_eq]
  generalize (lg_sl ([.ref q_t, .int (nI x0)]) ++ List.replicate (4 - (lg_sl ([.ref q_t, .int (nI x0)])).length) Slot.unset).toArray = ls at hl ⊢
  have hl : lv_has ls 4 [(0, .ref q_t), (1, .int (nI x0))] := hl
  generalize ([.ref q_t, .int (nI x0)] : List Value).toArray = args at hts hws ⊢
  generalize hQ : MQ below _ _ _ _ _ _ = Q
  have hb_4 : ∀ (ih : Nat → Nat → Nat → Option (Nat)) (IH : (∀ (l1 l2 l3 : Nat) (H : Heap) (locs : List Loc) (ls : Array Slot), ih l1 l2 l3 = some r → lv_has ls 4 [(0, .ref q_t), (1, .int (nI l1)), (2, .int (nI l2)), (3, .int (nI l3))] → va_P (dC, dI) vwCl (w_WD K q_t q_t_bits q_t_closings f_t_bits f_t_closings z_t_bits z_t_closings z_t_pairs) H → va_D A (w_WD K q_t q_t_bits q_t_closings f_t_bits f_t_closings z_t_bits z_t_closings z_t_pairs) → va_S A s.heap H locs → W p l e (headSpec wc_WD_onesBefore rm_WD_onesBefore).room s m args below meth c H locs 0 0 Q (F0 m 4 ls []))), ∀ (l1 l2 l3 : Nat) (H : Heap) (locs : List Loc) (ls : Array Slot), b_WD_onesBefore_4 ih x0 z_t_bits z_t_pairs l1 l2 l3 = some r → lv_has ls 4 [(0, .ref q_t), (1, .int (nI l1)), (2, .int (nI l2)), (3, .int (nI l3))] → va_P (dC, dI) vwCl (w_WD K q_t q_t_bits q_t_closings f_t_bits f_t_closings z_t_bits z_t_closings z_t_pairs) H → va_D A (w_WD K q_t q_t_bits q_t_closings f_t_bits f_t_closings z_t_bits z_t_closings z_t_pairs) → va_S A s.heap H locs → W p l e (headSpec wc_WD_onesBefore rm_WD_onesBefore).room s m args below meth c H locs 0 0 Q (F0 m 4 ls []) := by
    intro ih IH l1 l2 l3 H locs ls hf hl hP hD hS
    unfold b_WD_onesBefore_4 at hf
    refine lv_iload_n hx hb dWD_onesBefore_4 rfl (lv_at hl 3 rfl) ?_
    refine lv_iload_n hx hb dWD_onesBefore_5 rfl (lv_at hl 1 rfl) ?_
    refine lx_icmp_ge (tgt := 32) hx hb dWD_onesBefore_6 (by decide) hf (fun hf => ?_) (fun hf => ?_)
    · refine lv_iload_n hx hb dWD_onesBefore_32 rfl (lv_at hl 2 rfl) ?_
      obtain rfl := Option.some.inj hf
      rw [← hQ]
      exact W.iret (v := nI l2) hx hb hr (fun t ht hW => ⟨⟨rfl, by rw [ht]; exact hP⟩, hS.F ht⟩) hS.2.2 dWD_onesBefore_33
    · refine lv_iload_n hx hb dWD_onesBefore_9 rfl (lv_at hl 3 rfl) ?_
      refine lv_aload_n hx hb dWD_onesBefore_10 rfl (lv_at hl 0 rfl) ?_
      obtain ⟨q1, hq, hf⟩ := bd_s hf
      refine ct_callr (ws' := w_WD K q_t q_t_bits q_t_closings f_t_bits f_t_closings z_t_bits z_t_closings z_t_pairs) (va_runV (As := []) (rest := [.int (nI l3)]) ⟨hx, hb, hml, hown, hws⟩ (ct_WD_length l dC dI K q_t q_t_bits q_t_closings f_t_bits f_t_closings z_t_bits z_t_closings z_t_pairs q1 hq _) ⟨cb_WD_length hws rm_WD_length (hws _ km_WD_28) ⟨Nat.le_of_ble_eq_true rfl, Nat.le_of_ble_eq_true rfl⟩, hws _ ki_WD_length, hws _ ke_WD_WD_length_WD_length⟩ ⟨ct_blind _ _ _, va_recv (ci := 8) (q0 := 0) (q := (RWD, TWD, 3)) hK hP rfl rfl, ct_pre (cs := (w_WD K q_t q_t_bits q_t_closings f_t_bits f_t_closings z_t_bits z_t_closings z_t_pairs)) hP hD hK [0, 1, 2] (by decide) rfl _⟩ rfl rfl hl.1 rfl (lv_room (Nat.le_of_ble_eq_true rfl)) dWD_onesBefore_11 ⟨Nat.le_of_ble_eq_true rfl, Nat.le_of_ble_eq_true rfl⟩) hP hD hS hA [0, 1, 2] rfl rfl rfl rfl (fun H locs hP hD hS => ?_)
      refine lx_icmp_ge (tgt := 32) hx hb dWD_onesBefore_14 (by decide) hf (fun hf => ?_) (fun hf => ?_)
      · refine lv_iload_n hx hb dWD_onesBefore_32 rfl (lv_at hl 2 rfl) ?_
        obtain rfl := Option.some.inj hf
        rw [← hQ]
        exact W.iret (v := nI l2) hx hb hr (fun t ht hW => ⟨⟨rfl, by rw [ht]; exact hP⟩, hS.F ht⟩) hS.2.2 dWD_onesBefore_33
      · refine lv_iload_n hx hb dWD_onesBefore_17 rfl (lv_at hl 2 rfl) ?_
        refine lv_aload_n hx hb dWD_onesBefore_18 rfl (lv_at hl 0 rfl) ?_
        refine va_get (D := (dC, dI)) (ci := 8) (v := .ref q_t_bits) (C := RWD) (T := TWD) (N := 3) hx hb hws uwWD hown hK hP 0 rfl rfl 0 (by decide) (hws _ kf_WD_9) (fun _ h9 => h9) rfl dWD_onesBefore_19 ?_
        refine lv_iload_n hx hb dWD_onesBefore_22 rfl (lv_at hl 3 rfl) ?_
        refine lx_iald hx hb hK hP 1 0 rfl rfl (by decide) dWD_onesBefore_23 hf (fun v2 _ hf => ?_)
        refine lx_iadd hx hb dWD_onesBefore_24 ?_
        refine lv_istore_n hx hb dWD_onesBefore_25 rfl hl (by decide) rfl (fun ls hl => ?_)
        refine lx_iinc (k := 3) (d := 1) hx hb dWD_onesBefore_26 hl rfl (by decide +kernel) (by decide) rfl (fun ls hl => ?_)
        refine lv_goto (tgt := 4) hx hb dWD_onesBefore_29 (by decide) ?_
        have hf := fz_s hf
        have hf := fz_s hf
        exact IH l1 (iA l2 v2) (iA l3 1) _ _ _ hf (lv_sub hl [2, 3, 1, 0] rfl) hP hD hS
  have key : ∀ k : Nat, (∀ (l1 l2 l3 : Nat) (H : Heap) (locs : List Loc) (ls : Array Slot), fr_WD_onesBefore x0 z_t_bits z_t_pairs k l1 l2 l3 = some r → lv_has ls 4 [(0, .ref q_t), (1, .int (nI l1)), (2, .int (nI l2)), (3, .int (nI l3))] → va_P (dC, dI) vwCl (w_WD K q_t q_t_bits q_t_closings f_t_bits f_t_closings z_t_bits z_t_closings z_t_pairs) H → va_D A (w_WD K q_t q_t_bits q_t_closings f_t_bits f_t_closings z_t_bits z_t_closings z_t_pairs) → va_S A s.heap H locs → W p l e (headSpec wc_WD_onesBefore rm_WD_onesBefore).room s m args below meth c H locs 0 0 Q (F0 m 4 ls [])) := by
    intro k
    induction k with
    | zero => exact fun l1 l2 l3 H locs ls hf _ _ _ _ => no_s (α := Nat) (r := r) hf
    | succ k IH => exact fun l1 l2 l3 H locs ls hf => hb_4 (fr_WD_onesBefore x0 z_t_bits z_t_pairs k) IH l1 l2 l3 H locs ls ((frs_WD_onesBefore_4 x0 z_t_bits z_t_pairs k l1 l2 l3).symm.trans hf)
  have IH := key 1000000
  have hf : e_WD_onesBefore (fr_WD_onesBefore x0 z_t_bits z_t_pairs 1000000) x0 z_t_bits z_t_pairs = some r := hf
  unfold e_WD_onesBefore at hf
  generalize fr_WD_onesBefore x0 z_t_bits z_t_pairs 1000000 = ih at hf IH
  refine lv_iconst (v := nI 0) hx hb dWD_onesBefore_0 (by decide +kernel) ?_
  refine lv_istore_n hx hb dWD_onesBefore_1 rfl hl (by decide) rfl (fun ls hl => ?_)
  refine lv_iconst (v := nI 0) hx hb dWD_onesBefore_2 (by decide +kernel) ?_
  refine lv_istore_n hx hb dWD_onesBefore_3 rfl hl (by decide) rfl (fun ls hl => ?_)
  exact IH x0 0 0 _ _ _ hf (lv_sub hl [2, 3, 1, 0] rfl) hP hD hS
noncomputable def f_WD_zerosBefore (x0 : Nat) (z_t_bits : Nat) (z_t_pairs : Nat) : Option (Nat) := (Option.bind (f_WD_onesBefore x0 z_t_bits z_t_pairs) (fun q1 => some (iS x0 q1)))
abbrev rm_WD_zerosBefore : Room := { frames := 2, cells := 0, slots := 0, locals := 43 }
set_option maxHeartbeats 4000000 in
set_option maxRecDepth 100000 in
theorem ct_WD_zerosBefore (l : Launch) (dC : Nat → ClassId) (dI : Nat → Nat → Nat) (K : Nat → ClassId) (q_t : Nat) (q_t_bits : Nat) (q_t_closings : Nat) (f_t_bits : Nat → Int32) (f_t_closings : Nat → Int32) (x0 : Nat) (z_t_bits : Nat) (z_t_closings : Nat) (z_t_pairs : Nat) (r : Nat) (hf : f_WD_zerosBefore x0 z_t_bits z_t_pairs = some r) : Ct l (dC, dI) vwCl yWD_zerosBefore wc_WD_zerosBefore rm_WD_zerosBefore (tyK K) [.ref q_t, .int (nI x0)] (w_WD K q_t q_t_bits q_t_closings f_t_bits f_t_closings z_t_bits z_t_closings z_t_pairs) (w_WD K q_t q_t_bits q_t_closings f_t_bits f_t_closings z_t_bits z_t_closings z_t_pairs) (some (.int (nI r))) := by
  intro sz
  refine Met.ofW (cc := cWD_zerosBefore) (maxL := 2) (ret := (some .int)) (by decide) rfl ?_
  intro p e s m args below meth c s₁ B hml hv
  obtain ⟨rfl, hsz, hP, hK, hD0⟩ := hv
  have hx := B.exec
  have hb := B.bytes
  have hr := B.returns
  have hts := atoms_spec (ws := wc_WD_zerosBefore) B.pre
  have hws : ∀ w ∈ WS, w.before _ s = true := fun w h => hts w (List.mem_cons_of_mem _ h)
  have hown : s.vm.findClass RWD = some m.cls := findClass_of_methodNamed B.named
  have hlocks := B.notSynchronized
  subst hsz
  have hD := hD0.self (sz := s.heap.size)
  generalize hAe : va_A (w_WD K q_t q_t_bits q_t_closings f_t_bits f_t_closings z_t_bits z_t_closings z_t_pairs) s.heap.size = A at hD ⊢
  have hA : ∀ q : Nat, s.heap.size ≤ q → A q := fun q h => by rw [← hAe]; exact Or.inr h
  have hS : va_S A s.heap s.heap [] := va_S.rf
  have hl := lv_entry ([.ref q_t, .int (nI x0)]) (n := 2) (Nat.le_of_ble_eq_true rfl)
  rw [lg_entry_eq]
  generalize (lg_sl ([.ref q_t, .int (nI x0)]) ++ List.replicate (2 - (lg_sl ([.ref q_t, .int (nI x0)])).length) Slot.unset).toArray = ls at hl ⊢
  have hl : lv_has ls 2 [(0, .ref q_t), (1, .int (nI x0))] := hl
  generalize ([.ref q_t, .int (nI x0)] : List Value).toArray = args at hts hws ⊢
  generalize hQ : MQ below _ _ _ _ _ _ = Q
  unfold f_WD_zerosBefore at hf
  refine lv_iload_n hx hb dWD_zerosBefore_0 rfl (lv_at hl 1 rfl) ?_
  refine lv_aload_n hx hb dWD_zerosBefore_1 rfl (lv_at hl 0 rfl) ?_
  refine lv_iload_n hx hb dWD_zerosBefore_2 rfl (lv_at hl 1 rfl) ?_
  obtain ⟨q1, hq, hf⟩ := bd_s hf
  refine ct_callr (ws' := w_WD K q_t q_t_bits q_t_closings f_t_bits f_t_closings z_t_bits z_t_closings z_t_pairs) (va_runV (As := [.int (nI x0)]) (rest := [.int (nI x0)]) ⟨hx, hb, hml, hown, hws⟩ (ct_WD_onesBefore l dC dI K q_t q_t_bits q_t_closings f_t_bits f_t_closings x0 z_t_bits z_t_closings z_t_pairs q1 hq _) ⟨cb_WD_onesBefore hws rm_WD_onesBefore (hws _ km_WD_32) ⟨Nat.le_of_ble_eq_true rfl, Nat.le_of_ble_eq_true rfl⟩, hws _ ki_WD_onesBefore, hws _ ke_WD_WD_onesBefore_WD_onesBefore⟩ ⟨ct_blind _ _ _, va_recv (ci := 8) (q0 := 0) (q := (RWD, TWD, 3)) hK hP rfl rfl, ct_pre (cs := (w_WD K q_t q_t_bits q_t_closings f_t_bits f_t_closings z_t_bits z_t_closings z_t_pairs)) hP hD hK [0, 1, 2] (by decide) rfl _⟩ rfl rfl hl.1 rfl (lv_room (Nat.le_of_ble_eq_true rfl)) dWD_zerosBefore_3 ⟨Nat.le_of_ble_eq_true rfl, Nat.le_of_ble_eq_true rfl⟩) hP hD hS hA [0, 1, 2] rfl rfl rfl rfl (fun H locs hP hD hS => ?_)
  refine lx_isub hx hb dWD_zerosBefore_6 ?_
  obtain rfl := Option.some.inj hf
  rw [← hQ]
  exact W.iret (v := nI (iS x0 q1)) hx hb hr (fun t ht hW => ⟨⟨rfl, by rw [ht]; exact hP⟩, hS.F ht⟩) hS.2.2 dWD_zerosBefore_7
noncomputable def j_WD_fall_28 (ih : Nat → Nat → Option (Nat)) (x0 : Nat) (z_t_bits : Nat) (z_t_pairs : Nat) (l3 : Nat) (s0 : Nat) (s1 : Nat) : Option (Nat) := (bif iLt (iA s1 s0) 0 then some l3 else (fz (iA s1 s0) (fun u4 => fz (iA l3 1) (fun u5 => ih u4 u5))))
noncomputable def b_WD_fall_4 (ih : Nat → Nat → Option (Nat)) (x0 : Nat) (z_t_bits : Nat) (z_t_pairs : Nat) (l2 : Nat) (l3 : Nat) : Option (Nat) := (Option.bind (f_WD_length z_t_pairs) (fun q1 => (bif iLt l3 q1 then (rd z_t_bits 18 l3 (fun v3 => (bif iEq v3 1 then (j_WD_fall_28 ih x0 z_t_bits z_t_pairs l3 1 l2) else (j_WD_fall_28 ih x0 z_t_bits z_t_pairs l3 4294967295 l2)))) else (Option.bind (f_WD_length z_t_pairs) (fun q2 => some q2)))))
noncomputable def fr_WD_fall (x0 : Nat) (z_t_bits : Nat) (z_t_pairs : Nat) (k : Nat) : Nat → Nat → Option (Nat) := Nat.rec (motive := fun _ => Nat → Nat → Option (Nat)) (fun _ _ => none) (fun _ ih a0 a1 => b_WD_fall_4 ih x0 z_t_bits z_t_pairs a0 a1) k
theorem frs_WD_fall_4 (x0 : Nat) (z_t_bits : Nat) (z_t_pairs : Nat) (k : Nat) (l2 : Nat) (l3 : Nat) : fr_WD_fall x0 z_t_bits z_t_pairs (k + 1) l2 l3 = b_WD_fall_4 (fr_WD_fall x0 z_t_bits z_t_pairs k) x0 z_t_bits z_t_pairs l2 l3 := rfl
noncomputable def e_WD_fall (ih : Nat → Nat → Option (Nat)) (x0 : Nat) (z_t_bits : Nat) (z_t_pairs : Nat) : Option (Nat) := (ih 0 x0)
noncomputable def f_WD_fall (x0 : Nat) (z_t_bits : Nat) (z_t_pairs : Nat) : Option (Nat) := e_WD_fall (fr_WD_fall x0 z_t_bits z_t_pairs 1000000) x0 z_t_bits z_t_pairs
abbrev rm_WD_fall : Room := { frames := 1, cells := 0, slots := 0, locals := 20 }
set_option maxHeartbeats 4000000 in
set_option maxRecDepth 100000 in
theorem ct_WD_fall (l : Launch) (dC : Nat → ClassId) (dI : Nat → Nat → Nat) (K : Nat → ClassId) (q_t : Nat) (q_t_bits : Nat) (q_t_closings : Nat) (f_t_bits : Nat → Int32) (f_t_closings : Nat → Int32) (x0 : Nat) (z_t_bits : Nat) (z_t_closings : Nat) (z_t_pairs : Nat) (r : Nat) (hf : f_WD_fall x0 z_t_bits z_t_pairs = some r) : Ct l (dC, dI) vwCl yWD_fall wc_WD_fall rm_WD_fall (tyK K) [.ref q_t, .int (nI x0)] (w_WD K q_t q_t_bits q_t_closings f_t_bits f_t_closings z_t_bits z_t_closings z_t_pairs) (w_WD K q_t q_t_bits q_t_closings f_t_bits f_t_closings z_t_bits z_t_closings z_t_pairs) (some (.int (nI r))) := by
  intro sz
  refine Met.ofW (cc := cWD_fall) (maxL := 4) (ret := (some .int)) (by decide) rfl ?_
  intro p e s m args below meth c s₁ B hml hv
  obtain ⟨rfl, hsz, hP, hK, hD0⟩ := hv
  have hx := B.exec
  have hb := B.bytes
  have hr := B.returns
  have hts := atoms_spec (ws := wc_WD_fall) B.pre
  have hws : ∀ w ∈ WS, w.before _ s = true := fun w h => hts w (List.mem_cons_of_mem _ h)
  have hown : s.vm.findClass RWD = some m.cls := findClass_of_methodNamed B.named
  have hlocks := B.notSynchronized
  subst hsz
  have hD := hD0.self (sz := s.heap.size)
  generalize hAe : va_A (w_WD K q_t q_t_bits q_t_closings f_t_bits f_t_closings z_t_bits z_t_closings z_t_pairs) s.heap.size = A at hD ⊢
  have hA : ∀ q : Nat, s.heap.size ≤ q → A q := fun q h => by rw [← hAe]; exact Or.inr h
  have hS : va_S A s.heap s.heap [] := va_S.rf
  have hl := lv_entry ([.ref q_t, .int (nI x0)]) (n := 4) (Nat.le_of_ble_eq_true rfl)
  rw [lg_entry_eq]
  generalize (lg_sl ([.ref q_t, .int (nI x0)]) ++ List.replicate (4 - (lg_sl ([.ref q_t, .int (nI x0)])).length) Slot.unset).toArray = ls at hl ⊢
  have hl : lv_has ls 4 [(0, .ref q_t), (1, .int (nI x0))] := hl
  generalize ([.ref q_t, .int (nI x0)] : List Value).toArray = args at hts hws ⊢
  generalize hQ : MQ below _ _ _ _ _ _ = Q
  have hj_28 : ∀ (ih : Nat → Nat → Option (Nat)) (IH : (∀ (l2 l3 : Nat) (H : Heap) (locs : List Loc) (ls : Array Slot), ih l2 l3 = some r → lv_has ls 4 [(0, .ref q_t), (2, .int (nI l2)), (3, .int (nI l3))] → va_P (dC, dI) vwCl (w_WD K q_t q_t_bits q_t_closings f_t_bits f_t_closings z_t_bits z_t_closings z_t_pairs) H → va_D A (w_WD K q_t q_t_bits q_t_closings f_t_bits f_t_closings z_t_bits z_t_closings z_t_pairs) → va_S A s.heap H locs → W p l e (headSpec wc_WD_fall rm_WD_fall).room s m args below meth c H locs 0 0 Q (F0 m 4 ls []))), ∀ (l3 s0 s1 : Nat) (H : Heap) (locs : List Loc) (ls : Array Slot), j_WD_fall_28 ih x0 z_t_bits z_t_pairs l3 s0 s1 = some r → lv_has ls 4 [(0, .ref q_t), (3, .int (nI l3))] → va_P (dC, dI) vwCl (w_WD K q_t q_t_bits q_t_closings f_t_bits f_t_closings z_t_bits z_t_closings z_t_pairs) H → va_D A (w_WD K q_t q_t_bits q_t_closings f_t_bits f_t_closings z_t_bits z_t_closings z_t_pairs) → va_S A s.heap H locs → W p l e (headSpec wc_WD_fall rm_WD_fall).room s m args below meth c H locs 0 0 Q (F0 m 28 ls [.int (nI s0), .int (nI s1)]) := by
    intro ih IH l3 s0 s1 H locs ls hf hl hP hD hS
    unfold j_WD_fall_28 at hf
    refine lx_iadd hx hb dWD_fall_28 ?_
    refine lv_istore_n hx hb dWD_fall_29 rfl hl (by decide) rfl (fun ls hl => ?_)
    refine lv_iload_n hx hb dWD_fall_30 rfl (lv_at hl 0 rfl) ?_
    refine lx_if_ge (tgt := 36) hx hb dWD_fall_31 (by decide) hf (fun hf => ?_) (fun hf => ?_)
    · refine lx_iinc (k := 2) (d := 1) hx hb dWD_fall_36 hl rfl (by decide +kernel) (by decide) rfl (fun ls hl => ?_)
      refine lv_goto (tgt := 4) hx hb dWD_fall_39 (by decide) ?_
      have hf := fz_s hf
      have hf := fz_s hf
      exact IH (iA s1 s0) (iA l3 1) _ _ _ hf (lv_sub hl [2, 1, 0] rfl) hP hD hS
    · refine lv_iload_n hx hb dWD_fall_34 rfl (lv_at hl 2 rfl) ?_
      obtain rfl := Option.some.inj hf
      rw [← hQ]
      exact W.iret (v := nI l3) hx hb hr (fun t ht hW => ⟨⟨rfl, by rw [ht]; exact hP⟩, hS.F ht⟩) hS.2.2 dWD_fall_35
  have hb_4 : ∀ (ih : Nat → Nat → Option (Nat)) (IH : (∀ (l2 l3 : Nat) (H : Heap) (locs : List Loc) (ls : Array Slot), ih l2 l3 = some r → lv_has ls 4 [(0, .ref q_t), (2, .int (nI l2)), (3, .int (nI l3))] → va_P (dC, dI) vwCl (w_WD K q_t q_t_bits q_t_closings f_t_bits f_t_closings z_t_bits z_t_closings z_t_pairs) H → va_D A (w_WD K q_t q_t_bits q_t_closings f_t_bits f_t_closings z_t_bits z_t_closings z_t_pairs) → va_S A s.heap H locs → W p l e (headSpec wc_WD_fall rm_WD_fall).room s m args below meth c H locs 0 0 Q (F0 m 4 ls []))), ∀ (l2 l3 : Nat) (H : Heap) (locs : List Loc) (ls : Array Slot), b_WD_fall_4 ih x0 z_t_bits z_t_pairs l2 l3 = some r → lv_has ls 4 [(0, .ref q_t), (2, .int (nI l2)), (3, .int (nI l3))] → va_P (dC, dI) vwCl (w_WD K q_t q_t_bits q_t_closings f_t_bits f_t_closings z_t_bits z_t_closings z_t_pairs) H → va_D A (w_WD K q_t q_t_bits q_t_closings f_t_bits f_t_closings z_t_bits z_t_closings z_t_pairs) → va_S A s.heap H locs → W p l e (headSpec wc_WD_fall rm_WD_fall).room s m args below meth c H locs 0 0 Q (F0 m 4 ls []) := by
    intro ih IH l2 l3 H locs ls hf hl hP hD hS
    unfold b_WD_fall_4 at hf
    refine lv_iload_n hx hb dWD_fall_4 rfl (lv_at hl 2 rfl) ?_
    refine lv_aload_n hx hb dWD_fall_5 rfl (lv_at hl 0 rfl) ?_
    obtain ⟨q1, hq, hf⟩ := bd_s hf
    refine ct_callr (ws' := w_WD K q_t q_t_bits q_t_closings f_t_bits f_t_closings z_t_bits z_t_closings z_t_pairs) (va_runV (As := []) (rest := [.int (nI l3)]) ⟨hx, hb, hml, hown, hws⟩ (ct_WD_length l dC dI K q_t q_t_bits q_t_closings f_t_bits f_t_closings z_t_bits z_t_closings z_t_pairs q1 hq _) ⟨cb_WD_length hws rm_WD_length (hws _ km_WD_28) ⟨Nat.le_of_ble_eq_true rfl, Nat.le_of_ble_eq_true rfl⟩, hws _ ki_WD_length, hws _ ke_WD_WD_length_WD_length⟩ ⟨ct_blind _ _ _, va_recv (ci := 8) (q0 := 0) (q := (RWD, TWD, 3)) hK hP rfl rfl, ct_pre (cs := (w_WD K q_t q_t_bits q_t_closings f_t_bits f_t_closings z_t_bits z_t_closings z_t_pairs)) hP hD hK [0, 1, 2] (by decide) rfl _⟩ rfl rfl hl.1 rfl (lv_room (Nat.le_of_ble_eq_true rfl)) dWD_fall_6 ⟨Nat.le_of_ble_eq_true rfl, Nat.le_of_ble_eq_true rfl⟩) hP hD hS hA [0, 1, 2] rfl rfl rfl rfl (fun H locs hP hD hS => ?_)
    refine lx_icmp_ge (tgt := 42) hx hb dWD_fall_9 (by decide) hf (fun hf => ?_) (fun hf => ?_)
    · refine lv_aload_n hx hb dWD_fall_42 rfl (lv_at hl 0 rfl) ?_
      obtain ⟨q2, hq, hf⟩ := bd_s hf
      refine ct_callr (ws' := w_WD K q_t q_t_bits q_t_closings f_t_bits f_t_closings z_t_bits z_t_closings z_t_pairs) (va_runV (As := []) (rest := []) ⟨hx, hb, hml, hown, hws⟩ (ct_WD_length l dC dI K q_t q_t_bits q_t_closings f_t_bits f_t_closings z_t_bits z_t_closings z_t_pairs q2 hq _) ⟨cb_WD_length hws rm_WD_length (hws _ km_WD_28) ⟨Nat.le_of_ble_eq_true rfl, Nat.le_of_ble_eq_true rfl⟩, hws _ ki_WD_length, hws _ ke_WD_WD_length_WD_length⟩ ⟨ct_blind _ _ _, va_recv (ci := 8) (q0 := 0) (q := (RWD, TWD, 3)) hK hP rfl rfl, ct_pre (cs := (w_WD K q_t q_t_bits q_t_closings f_t_bits f_t_closings z_t_bits z_t_closings z_t_pairs)) hP hD hK [0, 1, 2] (by decide) rfl _⟩ rfl rfl hl.1 rfl (lv_room (Nat.le_of_ble_eq_true rfl)) dWD_fall_43 ⟨Nat.le_of_ble_eq_true rfl, Nat.le_of_ble_eq_true rfl⟩) hP hD hS hA [0, 1, 2] rfl rfl rfl rfl (fun H locs hP hD hS => ?_)
      obtain rfl := Option.some.inj hf
      rw [← hQ]
      exact W.iret (v := nI q2) hx hb hr (fun t ht hW => ⟨⟨rfl, by rw [ht]; exact hP⟩, hS.F ht⟩) hS.2.2 dWD_fall_46
    · refine lv_iload_n hx hb dWD_fall_12 rfl (lv_at hl 1 rfl) ?_
      refine lv_aload_n hx hb dWD_fall_13 rfl (lv_at hl 0 rfl) ?_
      refine va_get (D := (dC, dI)) (ci := 8) (v := .ref q_t_bits) (C := RWD) (T := TWD) (N := 3) hx hb hws uwWD hown hK hP 0 rfl rfl 0 (by decide) (hws _ kf_WD_9) (fun _ h9 => h9) rfl dWD_fall_14 ?_
      refine lv_iload_n hx hb dWD_fall_17 rfl (lv_at hl 2 rfl) ?_
      refine lx_iald hx hb hK hP 1 0 rfl rfl (by decide) dWD_fall_18 hf (fun v3 _ hf => ?_)
      refine lv_iconst (v := nI 1) hx hb dWD_fall_19 (by decide +kernel) ?_
      refine lx_icmp_ne (tgt := 27) hx hb dWD_fall_20 (by decide) hf (fun hf => ?_) (fun hf => ?_)
      · refine lv_iconst (v := nI 4294967295) hx hb dWD_fall_27 (by decide +kernel) ?_
        exact hj_28 _ IH l3 4294967295 l2 _ _ _ hf (lv_sub hl [0, 2] rfl) hP hD hS
      · refine lv_iconst (v := nI 1) hx hb dWD_fall_23 (by decide +kernel) ?_
        refine lv_goto (tgt := 28) hx hb dWD_fall_24 (by decide) ?_
        exact hj_28 _ IH l3 1 l2 _ _ _ hf (lv_sub hl [0, 2] rfl) hP hD hS
  have key : ∀ k : Nat, (∀ (l2 l3 : Nat) (H : Heap) (locs : List Loc) (ls : Array Slot), fr_WD_fall x0 z_t_bits z_t_pairs k l2 l3 = some r → lv_has ls 4 [(0, .ref q_t), (2, .int (nI l2)), (3, .int (nI l3))] → va_P (dC, dI) vwCl (w_WD K q_t q_t_bits q_t_closings f_t_bits f_t_closings z_t_bits z_t_closings z_t_pairs) H → va_D A (w_WD K q_t q_t_bits q_t_closings f_t_bits f_t_closings z_t_bits z_t_closings z_t_pairs) → va_S A s.heap H locs → W p l e (headSpec wc_WD_fall rm_WD_fall).room s m args below meth c H locs 0 0 Q (F0 m 4 ls [])) := by
    intro k
    induction k with
    | zero => exact fun l2 l3 H locs ls hf _ _ _ _ => no_s (α := Nat) (r := r) hf
    | succ k IH => exact fun l2 l3 H locs ls hf => hb_4 (fr_WD_fall x0 z_t_bits z_t_pairs k) IH l2 l3 H locs ls ((frs_WD_fall_4 x0 z_t_bits z_t_pairs k l2 l3).symm.trans hf)
  have IH := key 1000000
  have hf : e_WD_fall (fr_WD_fall x0 z_t_bits z_t_pairs 1000000) x0 z_t_bits z_t_pairs = some r := hf
  unfold e_WD_fall at hf
  generalize fr_WD_fall x0 z_t_bits z_t_pairs 1000000 = ih at hf IH
  refine lv_iconst (v := nI 0) hx hb dWD_fall_0 (by decide +kernel) ?_
  refine lv_istore_n hx hb dWD_fall_1 rfl hl (by decide) rfl (fun ls hl => ?_)
  refine lv_iload_n hx hb dWD_fall_2 rfl (lv_at hl 2 rfl) ?_
  refine lv_istore_n hx hb dWD_fall_3 rfl hl (by decide) rfl (fun ls hl => ?_)
  exact IH 0 x0 _ _ _ hf (lv_sub hl [2, 1, 0] rfl) hP hD hS
