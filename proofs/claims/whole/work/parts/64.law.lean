theorem kw_LW_size : Cond.codeWith yLW_size cLW_size 4 (some .int) [(0, 9, 12, 13)] ∈ WS := WS_t 302 (by decide +kernel) rfl
theorem pl_LW_size : ∀ sig, parseMethodDescriptor yLW_size.desc = some sig → 3 = sig.parameters.length := fun sig h => by
  have h2 : (parseMethodDescriptor yLW_size.desc).map (fun d => d.parameters.length) = some 3 := by decide +kernel
  rw [h] at h2
  exact (Option.some.inj h2).symm
theorem kw_LW_unrank : Cond.codeWith yLW_unrank cLW_unrank 3 (some .int) [(0, 5, 8, 13)] ∈ WS := WS_t 382 (by decide +kernel) rfl
theorem pl_LW_unrank : ∀ sig, parseMethodDescriptor yLW_unrank.desc = some sig → 2 = sig.parameters.length := fun sig h => by
  have h2 : (parseMethodDescriptor yLW_unrank.desc).map (fun d => d.parameters.length) = some 2 := by decide +kernel
  rw [h] at h2
  exact (Option.some.inj h2).symm
theorem kw_LW_rows : Cond.codeWith yLW_rows cLW_rows 5 (some .int) [(0, 10, 13, 13)] ∈ WS := WS_t 394 (by decide +kernel) rfl
theorem pl_LW_rows : ∀ sig, parseMethodDescriptor yLW_rows.desc = some sig → 4 = sig.parameters.length := fun sig h => by
  have h2 : (parseMethodDescriptor yLW_rows.desc).map (fun d => d.parameters.length) = some 4 := by decide +kernel
  rw [h] at h2
  exact (Option.some.inj h2).symm
theorem kw_LW_put : Cond.codeWith yLW_put cLW_put 4 (some .int) [(0, 6, 9, 27)] ∈ WS := WS_t 406 (by decide +kernel) rfl
theorem pl_LW_put : ∀ sig, parseMethodDescriptor yLW_put.desc = some sig → 3 = sig.parameters.length := fun sig h => by
  have h2 : (parseMethodDescriptor yLW_put.desc).map (fun d => d.parameters.length) = some 3 := by decide +kernel
  rw [h] at h2
  exact (Option.some.inj h2).symm
theorem kw_LW_note : Cond.codeWith yLW_note cLW_note 4 (some .int) [(0, 9, 12, 27)] ∈ WS := WS_t 430 (by decide +kernel) rfl
theorem pl_LW_note : ∀ sig, parseMethodDescriptor yLW_note.desc = some sig → 3 = sig.parameters.length := fun sig h => by
  have h2 : (parseMethodDescriptor yLW_note.desc).map (fun d => d.parameters.length) = some 3 := by decide +kernel
  rw [h] at h2
  exact (Option.some.inj h2).symm
theorem kw_LW_show : Cond.codeWith yLW_show cLW_show 4 (some .int) [(0, 9, 12, 13)] ∈ WS := WS_t 437 (by decide +kernel) rfl
theorem pl_LW_show : ∀ sig, parseMethodDescriptor yLW_show.desc = some sig → 3 = sig.parameters.length := fun sig h => by
  have h2 : (parseMethodDescriptor yLW_show.desc).map (fun d => d.parameters.length) = some 3 := by decide +kernel
  rw [h] at h2
  exact (Option.some.inj h2).symm
theorem kw_LW_take : Cond.codeWith yLW_take cLW_take 4 (some .int) [(0, 9, 12, 13), (0, 9, 15, 38)] ∈ WS := WS_t 505 (by decide +kernel) rfl
theorem pl_LW_take : ∀ sig, parseMethodDescriptor yLW_take.desc = some sig → 3 = sig.parameters.length := fun sig h => by
  have h2 : (parseMethodDescriptor yLW_take.desc).map (fun d => d.parameters.length) = some 3 := by decide +kernel
  rw [h] at h2
  exact (Option.some.inj h2).symm
theorem kw_LW_flip : Cond.codeWith yLW_flip cLW_flip 4 (some .int) [(0, 9, 12, 27)] ∈ WS := WS_t 566 (by decide +kernel) rfl
theorem pl_LW_flip : ∀ sig, parseMethodDescriptor yLW_flip.desc = some sig → 3 = sig.parameters.length := fun sig h => by
  have h2 : (parseMethodDescriptor yLW_flip.desc).map (fun d => d.parameters.length) = some 3 := by decide +kernel
  rw [h] at h2
  exact (Option.some.inj h2).symm
theorem kw_LW_flips : Cond.codeWith yLW_flips cLW_flips 4 (some .int) [(0, 9, 12, 13)] ∈ WS := WS_t 586 (by decide +kernel) rfl
theorem pl_LW_flips : ∀ sig, parseMethodDescriptor yLW_flips.desc = some sig → 3 = sig.parameters.length := fun sig h => by
  have h2 : (parseMethodDescriptor yLW_flips.desc).map (fun d => d.parameters.length) = some 3 := by decide +kernel
  rw [h] at h2
  exact (Option.some.inj h2).symm
set_option maxHeartbeats 2000000 in
theorem lw_size {p : Program} {l : Launch} {e : Env} {s : State} {m : MethodId} {args : Array Value} {below : List Frame} {meth : Method} {c : Code} {Q : State → Prop} {A : Nat → Prop} {dC : Nat → ClassId} {dI : Nat → Nat → Nat} {K : Nat → ClassId} {Rel : va_W → va_W → Prop} {b q_x q_m q_o L i C S z cells slots : Nat} {f_o : Nat → Int64} {xs : Nat → Int32} {cs ms : va_W} {H : Heap} {locs : List Loc} {ls : Array Slot}
    (hx : p.tables.exec = Jvm.exec) (hb : c.code = cLW_law) (hml : c.maxLocals = 7) (hown : s.vm.findClass RLW = some m.cls) (hws : ∀ w ∈ WS, w.before args s = true) (hK : va_K (dC, dI) vwCl (tyK K) s) (hE : lE s s) (hX : va_X b L xs s s.heap) (hL : L ≤ 1536) (hAb : ¬ A b) (hA : ∀ q : Nat, s.heap.size ≤ q → A q) (hAq : ∀ q : Nat, A q → s.heap.size ≤ q)
    (hd : ∀ c' m', Rel c' m' → hdOk q_x q_m c' m') (hi : i + 2 < L) (hR : Rel cs ms) (hl : lv_has ls 7 [(0, .ref b), (1, .ref q_x), (2, .ref q_m), (3, .ref q_o), (4, .int (nI i))]) (hP : va_P (dC, dI) vwCl (ms ++ (wLArr K 1 q_o f_o z ++ cs)) H) (hD : va_D A (ms ++ (wLArr K 1 q_o f_o z ++ cs))) (hS : va_S A s.heap H locs)
    (hC : cells + 30 ≤ C) (hS2 : slots + 3300 ≤ S) (hC2 : C ≤ 620493) (hS3 : S ≤ 7234624) (kk : lwK p l e s m args below meth c Q A (dC, dI) K Rel b q_x q_m q_o f_o i C S 644) (hst : stA s l (dC, dI) K q_x q_m Rel yLW_size wc_LW_size yMO_size wc_MO_size [.int (nI (xn (xs (i + 1))))] cs ms) : W p l e room_1 s m args below meth c H locs cells slots Q (F0 m 104 ls []) := by
  have hH : ∀ {H : Heap} {locs : List Loc}, va_S A s.heap H locs → ∀ q : Nat, q < s.heap.size → H[q]? = s.heap[q]? := fun hS q hq => hS.2.1 q hq (fun h => absurd (hAq q h) (by omega))
  have hx0 := (hd _ _ hR).1
  obtain ⟨F, G, rH, rM, k, v, r1, r2, hk3, hF1, hG1, hFG⟩ := hst q_o f_o z
  have c1 := r1.2.1
  have c2 := r1.2.2.1
  have c3 := r2.2.1
  have c4 := r2.2.2.1
  refine lv_aload_n hx hb dLW_law_104 rfl (lv_at hl 1 rfl) ?_
  refine lv_aload_n hx hb dLW_law_105 rfl (lv_at hl 0 rfl) ?_
  refine lv_iload hx hb dLW_law_106 (lv_at hl 4 rfl) ?_
  refine lv_iconst (v := nI 1) hx hb dLW_law_108 (by decide +kernel) ?_
  refine lx_iadd hx hb dLW_law_109 ?_
  rw [show iA i 1 = i + 1 from by rw [iA_eq, Nat.mod_eq_of_lt (by omega)]]
  refine lw_read hx hb hX hAb hS (by omega) (by omega) dLW_law_110 ?_
  refine lv_aload_n hx hb dLW_law_111 rfl (lv_at hl 3 rfl) ?_
  refine cr_call (w0 := ms) (cs := wLArr K 1 q_o f_o z ++ cs) (va_runSW (As := [.ref q_x, .int (nI (xn (xs (i + 1)))), .ref q_o]) (rest := []) ⟨hx, hb, hml, hown, hws⟩ (hF1 _) ⟨by have h9 := r1.1; show _ + 1 ≤ 10; omega, by have h9 := r1.2.2.2; show 8 + (4 + 11) + _ ≤ 360; omega⟩ (pay_in hws (WS_gd kw_LW_size)) List.mem_cons_self (hws _ kz_LW) ⟨by decide +kernel, by decide +kernel⟩ pl_LW_size (hws _ km_LW_50) (hws _ ks_LW_size) ⟨le_blind _ _ _, le_pre hP hD hK hE (hH hS) _⟩ rfl rfl hl.1 rfl (lv_room (Nat.le_of_ble_eq_true rfl)) dLW_law_112 ⟨by have h9 := r1.2.1; show _ ≤ 620493; omega, by have h9 := r1.2.2.1; show _ ≤ 7234624; omega⟩) hP hD hS hA (fun rv ws H locs hF hP hD hS => ?_)
  obtain ⟨z2, w, rfl, rfl, hFw, hkz⟩ := hF
  refine lv_istore hx hb dLW_law_115 hl (by decide) rfl (fun ls hl => ?_)
  have hP := sw_P hP
  have hD := sw_D hD
  refine lv_aload_n hx hb dLW_law_117 rfl (lv_at hl 3 rfl) ?_
  refine lv_aload_n hx hb dLW_law_118 rfl (lv_at hl 1 rfl) ?_
  refine lv_iload hx hb dLW_law_119 (lv_at hl 5 rfl) ?_
  refine lv_iconst (v := nI 1) hx hb dLW_law_121 (by decide +kernel) ?_
  refine lx_iadd hx hb dLW_law_122 ?_
  rw [show iA i 1 = i + 1 from by rw [iA_eq, Nat.mod_eq_of_lt (by omega)]]
  refine lw_read hx hb hX hAb hS (by omega) (by omega) dLW_law_123 ?_
  obtain ⟨vm, hm0⟩ := (hd _ _ hR).2
  refine cr_call (w0 := wLArr K 1 q_o f_o _ ++ _) (cs := _) (va_runV (As := [.int (nI (xn (xs (i + 1))))]) (rest := []) ⟨hx, hb, hml, hown, hws⟩ (hG1 _) ⟨cb_MO_size hws _ (hws _ km_LW_55) ⟨by have h9 := r2.1; show _ + 1 ≤ 10; omega, by have h9 := r2.2.2.2; show 8 + (2 + 11) + _ ≤ 360; omega⟩, hws _ ki_MO_size, hws _ ke_MO_MO_size_MO_size⟩ ⟨le_blind _ _ _, va_recv (ci := 10) (q0 := 0) (q := (RMO, TMO, 15)) hK (app_P.mp hP).2 rfl hm0, le_pre hP hD hK hE (hH hS) _⟩ rfl rfl hl.1 rfl (lv_room (Nat.le_of_ble_eq_true rfl)) dLW_law_124 ⟨by have h9 := r2.2.1; show _ ≤ 620493; omega, by have h9 := r2.2.2.1; show _ ≤ 7234624; omega⟩) hP hD hS hA (fun rv ws H locs hF hP hD hS => ?_)
  obtain ⟨rfl, hGw⟩ := hF
  obtain ⟨hR2, rT, r3, hT1⟩ := hFG _ _ hFw hGw
  have c5 := r3.2.1
  have c6 := r3.2.2.1
  obtain ⟨vm2, hm0⟩ := (hd _ _ hR2).2
  refine lv_istore hx hb dLW_law_127 hl (by decide) rfl (fun ls hl => ?_)
  refine lv_aload_n hx hb dLW_law_129 rfl (lv_at hl 4 rfl) ?_
  refine cr_call (w0 := wLArr K 1 q_o f_o _ ++ _) (cs := _) (va_runV (As := []) (rest := []) ⟨hx, hb, hml, hown, hws⟩ (hT1 _) ⟨cb_MO_thrown hws _ (hws _ km_LW_56) ⟨by have h9 := r3.1; show _ + 1 ≤ 10; omega, by have h9 := r3.2.2.2; show 8 + (1 + 11) + _ ≤ 360; omega⟩, hws _ ki_MO_thrown, hws _ ke_MO_MO_thrown_MO_thrown⟩ ⟨le_blind _ _ _, va_recv (ci := 10) (q0 := 0) (q := (RMO, TMO, 15)) hK (app_P.mp hP).2 rfl hm0, le_pre hP hD hK hE (hH hS) _⟩ rfl rfl hl.1 rfl (lv_room (Nat.le_of_ble_eq_true rfl)) dLW_law_130 ⟨by have h9 := r3.2.1; show _ ≤ 620493; omega, by have h9 := r3.2.2.1; show _ ≤ 7234624; omega⟩) hP hD hS hA (fun rv ws H locs hF hP hD hS => ?_)
  obtain ⟨rfl, hw3⟩ := hF
  rw [hw3] at hP hD
  refine lv_iload hx hb dLW_law_133 (lv_at hl 1 rfl) ?_
  refine lx_icmp_eq (X := some 0) (Y := none) (r := 0) (tgt := 140) hx hb dLW_law_135 (by decide) (by rw [(iEq_iff k k).mpr rfl]; rfl) (fun _ => ?_) (fun h => by cases h)
  refine lv_iload hx hb dLW_law_140 (lv_at hl 1 rfl) ?_
  refine lx_if_ne (X := bif iEq k 0 then some 0 else none) (Y := bif iEq k 0 then none else some 0) (r := 0) (tgt := 157) hx hb dLW_law_142 (by decide) (by cases iEq k 0 <;> rfl) (fun h0 => ?_) (fun h0 => ?_)
  · refine lv_goto (tgt := 644) hx hb dLW_law_157 (by decide) ?_
    exact kk _ _ _ _ _ _ _ _ hR2 (lv_sub hl [2, 3, 4, 5, 6] rfl) (sw_P hP) (sw_D hD) hS (by have := r1.2.1; have := r2.2.1; have := r3.2.1; omega) (by have := r1.2.2.1; have := r2.2.2.1; have := r3.2.2.1; omega)
  · have hk0 : k = 0 := by
      cases h9 : iEq k 0 with
      | false => rw [h9] at h0; cases h0
      | true =>
        rw [iEq_eq] at h9
        have h10 := Nat.eq_of_beq_eq_true h9
        omega
    refine lv_aload_n hx hb dLW_law_145 rfl (lv_at hl 5 rfl) ?_
    refine lv_iconst (v := nI 0) hx hb dLW_law_146 (by decide +kernel) ?_
    refine lx_lald hx hb hK (app_P.mp (app_P.mp hP).1).1 0 2 rfl rfl (by decide) dLW_law_147 (k := fun _ => some 0) (r := 0) (rdL_k (hkz hk0) (by decide)) (fun u hu _ => ?_)
    obtain rfl : u = jX v := by have h9 := hkz hk0; omega
    refine lv_iload hx hb dLW_law_148 (lv_at hl 0 rfl) ?_
    refine lx_i2l hx hb dLW_law_150 ?_
    refine lx_lcmp hx hb dLW_law_151 ?_
    rw [jC_self]
    refine lx_if_eq (X := some 0) (Y := none) (r := 0) (tgt := 157) hx hb dLW_law_152 (by decide) (by rw [(iEq_iff 0 0).mpr rfl]; rfl) (fun _ => ?_) (fun h => by cases h)
    refine lv_goto (tgt := 644) hx hb dLW_law_157 (by decide) ?_
    exact kk _ _ _ _ _ _ _ _ hR2 (lv_sub hl [2, 3, 4, 5, 6] rfl) (sw_P hP) (sw_D hD) hS (by have := r1.2.1; have := r2.2.1; have := r3.2.1; omega) (by have := r1.2.2.1; have := r2.2.2.1; have := r3.2.2.1; omega)
set_option maxHeartbeats 2000000 in
theorem lw_rank {p : Program} {l : Launch} {e : Env} {s : State} {m : MethodId} {args : Array Value} {below : List Frame} {meth : Method} {c : Code} {Q : State → Prop} {A : Nat → Prop} {dC : Nat → ClassId} {dI : Nat → Nat → Nat} {K : Nat → ClassId} {Rel : va_W → va_W → Prop} {b q_x q_m q_o L i C S z cells slots : Nat} {f_o : Nat → Int64} {xs : Nat → Int32} {cs ms : va_W} {H : Heap} {locs : List Loc} {ls : Array Slot}
    (hx : p.tables.exec = Jvm.exec) (hb : c.code = cLW_law) (hml : c.maxLocals = 7) (hown : s.vm.findClass RLW = some m.cls) (hws : ∀ w ∈ WS, w.before args s = true) (hK : va_K (dC, dI) vwCl (tyK K) s) (hE : lE s s) (hX : va_X b L xs s s.heap) (hL : L ≤ 1536) (hAb : ¬ A b) (hA : ∀ q : Nat, s.heap.size ≤ q → A q) (hAq : ∀ q : Nat, A q → s.heap.size ≤ q)
    (hd : ∀ c' m', Rel c' m' → hdOk q_x q_m c' m') (hi : i + 2 < L) (hR : Rel cs ms) (hl : lv_has ls 7 [(0, .ref b), (1, .ref q_x), (2, .ref q_m), (3, .ref q_o), (4, .int (nI i))]) (hP : va_P (dC, dI) vwCl (ms ++ (wLArr K 1 q_o f_o z ++ cs)) H) (hD : va_D A (ms ++ (wLArr K 1 q_o f_o z ++ cs))) (hS : va_S A s.heap H locs)
    (hC : cells + 30 ≤ C) (hS2 : slots + 3300 ≤ S) (hC2 : C ≤ 620493) (hS3 : S ≤ 7234624) (kk : lwK p l e s m args below meth c Q A (dC, dI) K Rel b q_x q_m q_o f_o i C S 644) (hst : stC s l (dC, dI) K q_x q_m Rel yCW_rank wc_CW_rank yMO_rank wc_MO_rank cs ms) : W p l e room_1 s m args below meth c H locs cells slots Q (F0 m 160 ls []) := by
  have hH : ∀ {H : Heap} {locs : List Loc}, va_S A s.heap H locs → ∀ q : Nat, q < s.heap.size → H[q]? = s.heap[q]? := fun hS q hq => hS.2.1 q hq (fun h => absurd (hAq q h) (by omega))
  obtain ⟨vx, hx0⟩ := (hd _ _ hR).1
  obtain ⟨F, G, rX, rM, v, r1, r2, hF1, hG1, hFG⟩ := hst
  have c1 := r1.2.1
  have c2 := r1.2.2.1
  have c3 := r2.2.1
  have c4 := r2.2.2.1
  refine lv_aload_n hx hb dLW_law_160 rfl (lv_at hl 1 rfl) ?_
  have hP : va_P (dC, dI) vwCl ((ms ++ wLArr K 1 q_o f_o z) ++ cs) H := by rw [List.append_assoc]; exact hP
  have hD : va_D A ((ms ++ wLArr K 1 q_o f_o z) ++ cs) := by rw [List.append_assoc]; exact hD
  refine cr_call (w0 := ms ++ wLArr K 1 q_o f_o z) (cs := cs) (va_runV (As := []) (rest := []) ⟨hx, hb, hml, hown, hws⟩ (hF1 _) ⟨cb_CW_rank hws _ (hws _ km_LW_60) ⟨by have h9 := r1.1; show _ + 1 ≤ 10; omega, by have h9 := r1.2.2.2; show 8 + (1 + 11) + _ ≤ 360; omega⟩, hws _ ki_CW_rank, hws _ ke_CW_CW_rank_CW_rank⟩ ⟨le_blind _ _ _, va_recv (ci := 9) (q0 := 0) (q := (RCW, TCW, 9)) hK (app_P.mp hP).2 rfl hx0, le_pre hP hD hK hE (hH hS) _⟩ rfl rfl hl.1 rfl (lv_room (Nat.le_of_ble_eq_true rfl)) dLW_law_161 ⟨by have h9 := r1.2.1; show _ ≤ 620493; omega, by have h9 := r1.2.2.1; show _ ≤ 7234624; omega⟩) hP hD hS hA (fun rv ws H locs hF hP hD hS => ?_)
  obtain ⟨rfl, hFw⟩ := hF
  have hP : va_P (dC, dI) vwCl ((wLArr K 1 q_o f_o z ++ ws) ++ ms) H := sw_P (by rw [← List.append_assoc]; exact hP)
  have hD : va_D A ((wLArr K 1 q_o f_o z ++ ws) ++ ms) := sw_D (by rw [← List.append_assoc]; exact hD)
  refine lv_aload_n hx hb dLW_law_164 rfl (lv_at hl 2 rfl) ?_
  obtain ⟨vm, hm0⟩ := (hd _ _ hR).2
  refine cr_call (w0 := wLArr K 1 q_o f_o _ ++ _) (cs := _) (va_runV (As := []) (rest := [.int (nI v)]) ⟨hx, hb, hml, hown, hws⟩ (hG1 _) ⟨cb_MO_rank hws _ (hws _ km_LW_63) ⟨by have h9 := r2.1; show _ + 1 ≤ 10; omega, by have h9 := r2.2.2.2; show 8 + (1 + 11) + _ ≤ 360; omega⟩, hws _ ki_MO_rank, hws _ ke_MO_MO_rank_MO_rank⟩ ⟨le_blind _ _ _, va_recv (ci := 10) (q0 := 0) (q := (RMO, TMO, 15)) hK (app_P.mp hP).2 rfl hm0, le_pre hP hD hK hE (hH hS) _⟩ rfl rfl hl.1 rfl (lv_room (Nat.le_of_ble_eq_true rfl)) dLW_law_165 ⟨by have h9 := r2.2.1; show _ ≤ 620493; omega, by have h9 := r2.2.2.1; show _ ≤ 7234624; omega⟩) hP hD hS hA (fun rv ws H locs hF hP hD hS => ?_)
  obtain ⟨rfl, hGw⟩ := hF
  have hR2 := hFG _ _ hFw hGw
  refine lx_icmp_eq (X := some 0) (Y := none) (r := 0) (tgt := 644) hx hb dLW_law_168 (by decide) (by rw [(iEq_iff v v).mpr rfl]; rfl) (fun _ => ?_) (fun h => by cases h)
  exact kk _ _ _ _ _ _ _ _ hR2 hl (sw_P hP) (sw_D hD) hS (by have := r1.2.1; have := r2.2.1; omega) (by have := r1.2.2.1; have := r2.2.2.1; omega)
set_option maxHeartbeats 2000000 in
theorem lw_unrank {p : Program} {l : Launch} {e : Env} {s : State} {m : MethodId} {args : Array Value} {below : List Frame} {meth : Method} {c : Code} {Q : State → Prop} {A : Nat → Prop} {dC : Nat → ClassId} {dI : Nat → Nat → Nat} {K : Nat → ClassId} {Rel : va_W → va_W → Prop} {b q_x q_m q_o L i C S z cells slots : Nat} {f_o : Nat → Int64} {xs : Nat → Int32} {cs ms : va_W} {H : Heap} {locs : List Loc} {ls : Array Slot}
    (hx : p.tables.exec = Jvm.exec) (hb : c.code = cLW_law) (hml : c.maxLocals = 7) (hown : s.vm.findClass RLW = some m.cls) (hws : ∀ w ∈ WS, w.before args s = true) (hK : va_K (dC, dI) vwCl (tyK K) s) (hE : lE s s) (hX : va_X b L xs s s.heap) (hL : L ≤ 1536) (hAb : ¬ A b) (hA : ∀ q : Nat, s.heap.size ≤ q → A q) (hAq : ∀ q : Nat, A q → s.heap.size ≤ q)
    (hd : ∀ c' m', Rel c' m' → hdOk q_x q_m c' m') (hi : i + 2 < L) (hR : Rel cs ms) (hl : lv_has ls 7 [(0, .ref b), (1, .ref q_x), (2, .ref q_m), (3, .ref q_o), (4, .int (nI i))]) (hP : va_P (dC, dI) vwCl (ms ++ (wLArr K 1 q_o f_o z ++ cs)) H) (hD : va_D A (ms ++ (wLArr K 1 q_o f_o z ++ cs))) (hS : va_S A s.heap H locs)
    (hC : cells + 30 ≤ C) (hS2 : slots + 3300 ≤ S) (hC2 : C ≤ 620493) (hS3 : S ≤ 7234624) (kk : lwK p l e s m args below meth c Q A (dC, dI) K Rel b q_x q_m q_o f_o i C S 644) (hst : stB s l (dC, dI) K q_x q_m Rel yLW_unrank wc_LW_unrank yMO_unrank wc_MO_unrank [.int (nI (xn (xs (i + 1))))] cs ms) : W p l e room_1 s m args below meth c H locs cells slots Q (F0 m 173 ls []) := by
  have hH : ∀ {H : Heap} {locs : List Loc}, va_S A s.heap H locs → ∀ q : Nat, q < s.heap.size → H[q]? = s.heap[q]? := fun hS q hq => hS.2.1 q hq (fun h => absurd (hAq q h) (by omega))
  have hx0 := (hd _ _ hR).1
  obtain ⟨F, G, rH, rM, k, r1, r2, hk3, hF1, hG1, hFG⟩ := hst
  have c1 := r1.2.1
  have c2 := r1.2.2.1
  have c3 := r2.2.1
  have c4 := r2.2.2.1
  refine lv_aload_n hx hb dLW_law_173 rfl (lv_at hl 1 rfl) ?_
  refine lv_aload_n hx hb dLW_law_174 rfl (lv_at hl 0 rfl) ?_
  refine lv_iload hx hb dLW_law_175 (lv_at hl 4 rfl) ?_
  refine lv_iconst (v := nI 1) hx hb dLW_law_177 (by decide +kernel) ?_
  refine lx_iadd hx hb dLW_law_178 ?_
  rw [show iA i 1 = i + 1 from by rw [iA_eq, Nat.mod_eq_of_lt (by omega)]]
  refine lw_read hx hb hX hAb hS (by omega) (by omega) dLW_law_179 ?_
  have hP : va_P (dC, dI) vwCl ((ms ++ wLArr K 1 q_o f_o z) ++ (([] : va_W) ++ cs)) H := by rw [List.append_assoc]; exact hP
  have hD : va_D A ((ms ++ wLArr K 1 q_o f_o z) ++ (([] : va_W) ++ cs)) := by rw [List.append_assoc]; exact hD
  refine cr_call (w0 := ms ++ wLArr K 1 q_o f_o z) (cs := ([] : va_W) ++ cs) (va_runSW (As := [.ref q_x, .int (nI (xn (xs (i + 1))))]) (rest := []) ⟨hx, hb, hml, hown, hws⟩ (hF1 _) ⟨by have h9 := r1.1; show _ + 1 ≤ 10; omega, by have h9 := r1.2.2.2; show 8 + (3 + 11) + _ ≤ 360; omega⟩ (pay_in hws (WS_gd kw_LW_unrank)) List.mem_cons_self (hws _ kz_LW) ⟨by decide +kernel, by decide +kernel⟩ pl_LW_unrank (hws _ km_LW_64) (hws _ ks_LW_unrank) ⟨le_blind _ _ _, le_pre hP hD hK hE (hH hS) _⟩ rfl rfl hl.1 rfl (lv_room (Nat.le_of_ble_eq_true rfl)) dLW_law_180 ⟨by have h9 := r1.2.1; show _ ≤ 620493; omega, by have h9 := r1.2.2.1; show _ ≤ 7234624; omega⟩) hP hD hS hA (fun rv ws H locs hF hP hD hS => ?_)
  obtain ⟨w, rfl, hw2, hFw⟩ := hF
  rw [hw2] at hP hD
  refine lv_istore hx hb dLW_law_183 hl (by decide) rfl (fun ls hl => ?_)
  have hP : va_P (dC, dI) vwCl ((wLArr K 1 q_o f_o z ++ w) ++ ms) H := sw_P (by rw [← List.append_assoc]; exact hP)
  have hD : va_D A ((wLArr K 1 q_o f_o z ++ w) ++ ms) := sw_D (by rw [← List.append_assoc]; exact hD)
  refine lv_aload_n hx hb dLW_law_185 rfl (lv_at hl 3 rfl) ?_
  refine lv_aload_n hx hb dLW_law_186 rfl (lv_at hl 1 rfl) ?_
  refine lv_iload hx hb dLW_law_187 (lv_at hl 5 rfl) ?_
  refine lv_iconst (v := nI 1) hx hb dLW_law_189 (by decide +kernel) ?_
  refine lx_iadd hx hb dLW_law_190 ?_
  rw [show iA i 1 = i + 1 from by rw [iA_eq, Nat.mod_eq_of_lt (by omega)]]
  refine lw_read hx hb hX hAb hS (by omega) (by omega) dLW_law_191 ?_
  obtain ⟨vm, hm0⟩ := (hd _ _ hR).2
  refine cr_call (w0 := wLArr K 1 q_o f_o _ ++ _) (cs := _) (va_runV (As := [.int (nI (xn (xs (i + 1))))]) (rest := []) ⟨hx, hb, hml, hown, hws⟩ (hG1 _) ⟨cb_MO_unrank hws _ (hws _ km_LW_67) ⟨by have h9 := r2.1; show _ + 1 ≤ 10; omega, by have h9 := r2.2.2.2; show 8 + (4 + 11) + _ ≤ 360; omega⟩, hws _ ki_MO_unrank, hws _ ke_MO_MO_unrank_MO_unrank⟩ ⟨le_blind _ _ _, va_recv (ci := 10) (q0 := 0) (q := (RMO, TMO, 15)) hK (app_P.mp hP).2 rfl hm0, le_pre hP hD hK hE (hH hS) _⟩ rfl rfl hl.1 rfl (lv_room (Nat.le_of_ble_eq_true rfl)) dLW_law_192 ⟨by have h9 := r2.2.1; show _ ≤ 620493; omega, by have h9 := r2.2.2.1; show _ ≤ 7234624; omega⟩) hP hD hS hA (fun rv ws H locs hF hP hD hS => ?_)
  obtain ⟨rfl, hGw⟩ := hF
  obtain ⟨hR2, rT, r3, hT1⟩ := hFG _ _ hFw hGw
  have c5 := r3.2.1
  have c6 := r3.2.2.1
  obtain ⟨vm2, hm0⟩ := (hd _ _ hR2).2
  refine lv_aload_n hx hb dLW_law_195 rfl (lv_at hl 3 rfl) ?_
  refine cr_call (w0 := wLArr K 1 q_o f_o _ ++ _) (cs := _) (va_runV (As := []) (rest := []) ⟨hx, hb, hml, hown, hws⟩ (hT1 _) ⟨cb_MO_thrown hws _ (hws _ km_LW_56) ⟨by have h9 := r3.1; show _ + 1 ≤ 10; omega, by have h9 := r3.2.2.2; show 8 + (1 + 11) + _ ≤ 360; omega⟩, hws _ ki_MO_thrown, hws _ ke_MO_MO_thrown_MO_thrown⟩ ⟨le_blind _ _ _, va_recv (ci := 10) (q0 := 0) (q := (RMO, TMO, 15)) hK (app_P.mp hP).2 rfl hm0, le_pre hP hD hK hE (hH hS) _⟩ rfl rfl hl.1 rfl (lv_room (Nat.le_of_ble_eq_true rfl)) dLW_law_196 ⟨by have h9 := r3.2.1; show _ ≤ 620493; omega, by have h9 := r3.2.2.1; show _ ≤ 7234624; omega⟩) hP hD hS hA (fun rv ws H locs hF hP hD hS => ?_)
  obtain ⟨rfl, hw3⟩ := hF
  rw [hw3] at hP hD
  refine lv_iload hx hb dLW_law_199 (lv_at hl 0 rfl) ?_
  refine lx_icmp_eq (X := some 0) (Y := none) (r := 0) (tgt := 206) hx hb dLW_law_201 (by decide) (by rw [(iEq_iff k k).mpr rfl]; rfl) (fun _ => ?_) (fun h => by cases h)
  refine lv_goto (tgt := 644) hx hb dLW_law_206 (by decide) ?_
  exact kk _ _ _ _ _ _ _ _ hR2 (lv_sub hl [1, 2, 3, 4, 5] rfl) (sw_P hP) (sw_D hD) hS (by have := r1.2.1; have := r2.2.1; have := r3.2.1; omega) (by have := r1.2.2.1; have := r2.2.2.1; have := r3.2.2.1; omega)
set_option maxHeartbeats 2000000 in
theorem lw_rows {p : Program} {l : Launch} {e : Env} {s : State} {m : MethodId} {args : Array Value} {below : List Frame} {meth : Method} {c : Code} {Q : State → Prop} {A : Nat → Prop} {dC : Nat → ClassId} {dI : Nat → Nat → Nat} {K : Nat → ClassId} {Rel : va_W → va_W → Prop} {b q_x q_m q_o L i C S z cells slots : Nat} {f_o : Nat → Int64} {xs : Nat → Int32} {cs ms : va_W} {H : Heap} {locs : List Loc} {ls : Array Slot}
    (hx : p.tables.exec = Jvm.exec) (hb : c.code = cLW_law) (hml : c.maxLocals = 7) (hown : s.vm.findClass RLW = some m.cls) (hws : ∀ w ∈ WS, w.before args s = true) (hK : va_K (dC, dI) vwCl (tyK K) s) (hE : lE s s) (hX : va_X b L xs s s.heap) (hL : L ≤ 1536) (hAb : ¬ A b) (hA : ∀ q : Nat, s.heap.size ≤ q → A q) (hAq : ∀ q : Nat, A q → s.heap.size ≤ q)
    (hd : ∀ c' m', Rel c' m' → hdOk q_x q_m c' m') (hi : i + 2 < L) (hR : Rel cs ms) (hl : lv_has ls 7 [(0, .ref b), (1, .ref q_x), (2, .ref q_m), (3, .ref q_o), (4, .int (nI i))]) (hP : va_P (dC, dI) vwCl (ms ++ (wLArr K 1 q_o f_o z ++ cs)) H) (hD : va_D A (ms ++ (wLArr K 1 q_o f_o z ++ cs))) (hS : va_S A s.heap H locs)
    (hC : cells + 30 ≤ C) (hS2 : slots + 3300 ≤ S) (hC2 : C ≤ 620493) (hS3 : S ≤ 7234624) (kk : lwK p l e s m args below meth c Q A (dC, dI) K Rel b q_x q_m q_o f_o i C S 644) (hst : stA s l (dC, dI) K q_x q_m Rel yLW_rows wc_LW_rows yMO_rows wc_MO_rows [.int (nI (xn (xs (i + 1)))), .int (nI (xn (xs (i + 2))))] cs ms) : W p l e room_1 s m args below meth c H locs cells slots Q (F0 m 209 ls []) := by
  have hH : ∀ {H : Heap} {locs : List Loc}, va_S A s.heap H locs → ∀ q : Nat, q < s.heap.size → H[q]? = s.heap[q]? := fun hS q hq => hS.2.1 q hq (fun h => absurd (hAq q h) (by omega))
  have hx0 := (hd _ _ hR).1
  obtain ⟨F, G, rH, rM, k, v, r1, r2, hk3, hF1, hG1, hFG⟩ := hst q_o f_o z
  have c1 := r1.2.1
  have c2 := r1.2.2.1
  have c3 := r2.2.1
  have c4 := r2.2.2.1
  refine lv_aload_n hx hb dLW_law_209 rfl (lv_at hl 1 rfl) ?_
  refine lv_aload_n hx hb dLW_law_210 rfl (lv_at hl 0 rfl) ?_
  refine lv_iload hx hb dLW_law_211 (lv_at hl 4 rfl) ?_
  refine lv_iconst (v := nI 1) hx hb dLW_law_213 (by decide +kernel) ?_
  refine lx_iadd hx hb dLW_law_214 ?_
  rw [show iA i 1 = i + 1 from by rw [iA_eq, Nat.mod_eq_of_lt (by omega)]]
  refine lw_read hx hb hX hAb hS (by omega) (by omega) dLW_law_215 ?_
  refine lv_aload_n hx hb dLW_law_216 rfl (lv_at hl 0 rfl) ?_
  refine lv_iload hx hb dLW_law_217 (lv_at hl 4 rfl) ?_
  refine lv_iconst (v := nI 2) hx hb dLW_law_219 (by decide +kernel) ?_
  refine lx_iadd hx hb dLW_law_220 ?_
  rw [show iA i 2 = i + 2 from by rw [iA_eq, Nat.mod_eq_of_lt (by omega)]]
  refine lw_read hx hb hX hAb hS (by omega) (by omega) dLW_law_221 ?_
  refine lv_aload_n hx hb dLW_law_222 rfl (lv_at hl 3 rfl) ?_
  refine cr_call (w0 := ms) (cs := wLArr K 1 q_o f_o z ++ cs) (va_runSW (As := [.ref q_x, .int (nI (xn (xs (i + 1)))), .int (nI (xn (xs (i + 2)))), .ref q_o]) (rest := []) ⟨hx, hb, hml, hown, hws⟩ (hF1 _) ⟨by have h9 := r1.1; show _ + 1 ≤ 10; omega, by have h9 := r1.2.2.2; show 8 + (5 + 11) + _ ≤ 360; omega⟩ (pay_in hws (WS_gd kw_LW_rows)) List.mem_cons_self (hws _ kz_LW) ⟨by decide +kernel, by decide +kernel⟩ pl_LW_rows (hws _ km_LW_68) (hws _ ks_LW_rows) ⟨le_blind _ _ _, le_pre hP hD hK hE (hH hS) _⟩ rfl rfl hl.1 rfl (lv_room (Nat.le_of_ble_eq_true rfl)) dLW_law_223 ⟨by have h9 := r1.2.1; show _ ≤ 620493; omega, by have h9 := r1.2.2.1; show _ ≤ 7234624; omega⟩) hP hD hS hA (fun rv ws H locs hF hP hD hS => ?_)
  obtain ⟨z2, w, rfl, rfl, hFw, hkz⟩ := hF
  refine lv_istore hx hb dLW_law_226 hl (by decide) rfl (fun ls hl => ?_)
  have hP := sw_P hP
  have hD := sw_D hD
  refine lv_aload_n hx hb dLW_law_228 rfl (lv_at hl 3 rfl) ?_
  refine lv_aload_n hx hb dLW_law_229 rfl (lv_at hl 1 rfl) ?_
  refine lv_iload hx hb dLW_law_230 (lv_at hl 5 rfl) ?_
  refine lv_iconst (v := nI 1) hx hb dLW_law_232 (by decide +kernel) ?_
  refine lx_iadd hx hb dLW_law_233 ?_
  rw [show iA i 1 = i + 1 from by rw [iA_eq, Nat.mod_eq_of_lt (by omega)]]
  refine lw_read hx hb hX hAb hS (by omega) (by omega) dLW_law_234 ?_
  refine lv_aload_n hx hb dLW_law_235 rfl (lv_at hl 1 rfl) ?_
  refine lv_iload hx hb dLW_law_236 (lv_at hl 5 rfl) ?_
  refine lv_iconst (v := nI 2) hx hb dLW_law_238 (by decide +kernel) ?_
  refine lx_iadd hx hb dLW_law_239 ?_
  rw [show iA i 2 = i + 2 from by rw [iA_eq, Nat.mod_eq_of_lt (by omega)]]
  refine lw_read hx hb hX hAb hS (by omega) (by omega) dLW_law_240 ?_
  obtain ⟨vm, hm0⟩ := (hd _ _ hR).2
  refine cr_call (w0 := wLArr K 1 q_o f_o _ ++ _) (cs := _) (va_runV (As := [.int (nI (xn (xs (i + 1)))), .int (nI (xn (xs (i + 2))))]) (rest := []) ⟨hx, hb, hml, hown, hws⟩ (hG1 _) ⟨cb_MO_rows hws _ (hws _ km_LW_71) ⟨by have h9 := r2.1; show _ + 1 ≤ 10; omega, by have h9 := r2.2.2.2; show 8 + (8 + 11) + _ ≤ 360; omega⟩, hws _ ki_MO_rows, hws _ ke_MO_MO_rows_MO_rows⟩ ⟨le_blind _ _ _, va_recv (ci := 10) (q0 := 0) (q := (RMO, TMO, 15)) hK (app_P.mp hP).2 rfl hm0, le_pre hP hD hK hE (hH hS) _⟩ rfl rfl hl.1 rfl (lv_room (Nat.le_of_ble_eq_true rfl)) dLW_law_241 ⟨by have h9 := r2.2.1; show _ ≤ 620493; omega, by have h9 := r2.2.2.1; show _ ≤ 7234624; omega⟩) hP hD hS hA (fun rv ws H locs hF hP hD hS => ?_)
  obtain ⟨rfl, hGw⟩ := hF
  obtain ⟨hR2, rT, r3, hT1⟩ := hFG _ _ hFw hGw
  have c5 := r3.2.1
  have c6 := r3.2.2.1
  obtain ⟨vm2, hm0⟩ := (hd _ _ hR2).2
  refine lv_istore hx hb dLW_law_244 hl (by decide) rfl (fun ls hl => ?_)
  refine lv_aload_n hx hb dLW_law_246 rfl (lv_at hl 4 rfl) ?_
  refine cr_call (w0 := wLArr K 1 q_o f_o _ ++ _) (cs := _) (va_runV (As := []) (rest := []) ⟨hx, hb, hml, hown, hws⟩ (hT1 _) ⟨cb_MO_thrown hws _ (hws _ km_LW_56) ⟨by have h9 := r3.1; show _ + 1 ≤ 10; omega, by have h9 := r3.2.2.2; show 8 + (1 + 11) + _ ≤ 360; omega⟩, hws _ ki_MO_thrown, hws _ ke_MO_MO_thrown_MO_thrown⟩ ⟨le_blind _ _ _, va_recv (ci := 10) (q0 := 0) (q := (RMO, TMO, 15)) hK (app_P.mp hP).2 rfl hm0, le_pre hP hD hK hE (hH hS) _⟩ rfl rfl hl.1 rfl (lv_room (Nat.le_of_ble_eq_true rfl)) dLW_law_247 ⟨by have h9 := r3.2.1; show _ ≤ 620493; omega, by have h9 := r3.2.2.1; show _ ≤ 7234624; omega⟩) hP hD hS hA (fun rv ws H locs hF hP hD hS => ?_)
  obtain ⟨rfl, hw3⟩ := hF
  rw [hw3] at hP hD
  refine lv_iload hx hb dLW_law_250 (lv_at hl 1 rfl) ?_
  refine lx_icmp_eq (X := some 0) (Y := none) (r := 0) (tgt := 257) hx hb dLW_law_252 (by decide) (by rw [(iEq_iff k k).mpr rfl]; rfl) (fun _ => ?_) (fun h => by cases h)
  refine lv_iload hx hb dLW_law_257 (lv_at hl 1 rfl) ?_
  refine lx_if_ne (X := bif iEq k 0 then some 0 else none) (Y := bif iEq k 0 then none else some 0) (r := 0) (tgt := 274) hx hb dLW_law_259 (by decide) (by cases iEq k 0 <;> rfl) (fun h0 => ?_) (fun h0 => ?_)
  · refine lv_goto (tgt := 644) hx hb dLW_law_274 (by decide) ?_
    exact kk _ _ _ _ _ _ _ _ hR2 (lv_sub hl [2, 3, 4, 5, 6] rfl) (sw_P hP) (sw_D hD) hS (by have := r1.2.1; have := r2.2.1; have := r3.2.1; omega) (by have := r1.2.2.1; have := r2.2.2.1; have := r3.2.2.1; omega)
  · have hk0 : k = 0 := by
      cases h9 : iEq k 0 with
      | false => rw [h9] at h0; cases h0
      | true =>
        rw [iEq_eq] at h9
        have h10 := Nat.eq_of_beq_eq_true h9
        omega
    refine lv_aload_n hx hb dLW_law_262 rfl (lv_at hl 5 rfl) ?_
    refine lv_iconst (v := nI 0) hx hb dLW_law_263 (by decide +kernel) ?_
    refine lx_lald hx hb hK (app_P.mp (app_P.mp hP).1).1 0 2 rfl rfl (by decide) dLW_law_264 (k := fun _ => some 0) (r := 0) (rdL_k (hkz hk0) (by decide)) (fun u hu _ => ?_)
    obtain rfl : u = jX v := by have h9 := hkz hk0; omega
    refine lv_iload hx hb dLW_law_265 (lv_at hl 0 rfl) ?_
    refine lx_i2l hx hb dLW_law_267 ?_
    refine lx_lcmp hx hb dLW_law_268 ?_
    rw [jC_self]
    refine lx_if_eq (X := some 0) (Y := none) (r := 0) (tgt := 274) hx hb dLW_law_269 (by decide) (by rw [(iEq_iff 0 0).mpr rfl]; rfl) (fun _ => ?_) (fun h => by cases h)
    refine lv_goto (tgt := 644) hx hb dLW_law_274 (by decide) ?_
    exact kk _ _ _ _ _ _ _ _ hR2 (lv_sub hl [2, 3, 4, 5, 6] rfl) (sw_P hP) (sw_D hD) hS (by have := r1.2.1; have := r2.2.1; have := r3.2.1; omega) (by have := r1.2.2.1; have := r2.2.2.1; have := r3.2.2.1; omega)
set_option maxHeartbeats 2000000 in
theorem lw_put {p : Program} {l : Launch} {e : Env} {s : State} {m : MethodId} {args : Array Value} {below : List Frame} {meth : Method} {c : Code} {Q : State → Prop} {A : Nat → Prop} {dC : Nat → ClassId} {dI : Nat → Nat → Nat} {K : Nat → ClassId} {Rel : va_W → va_W → Prop} {b q_x q_m q_o L i C S z cells slots : Nat} {f_o : Nat → Int64} {xs : Nat → Int32} {cs ms : va_W} {H : Heap} {locs : List Loc} {ls : Array Slot}
    (hx : p.tables.exec = Jvm.exec) (hb : c.code = cLW_law) (hml : c.maxLocals = 7) (hown : s.vm.findClass RLW = some m.cls) (hws : ∀ w ∈ WS, w.before args s = true) (hK : va_K (dC, dI) vwCl (tyK K) s) (hE : lE s s) (hX : va_X b L xs s s.heap) (hL : L ≤ 1536) (hAb : ¬ A b) (hA : ∀ q : Nat, s.heap.size ≤ q → A q) (hAq : ∀ q : Nat, A q → s.heap.size ≤ q)
    (hd : ∀ c' m', Rel c' m' → hdOk q_x q_m c' m') (hi : i + 2 < L) (hR : Rel cs ms) (hl : lv_has ls 7 [(0, .ref b), (1, .ref q_x), (2, .ref q_m), (3, .ref q_o), (4, .int (nI i))]) (hP : va_P (dC, dI) vwCl (ms ++ (wLArr K 1 q_o f_o z ++ cs)) H) (hD : va_D A (ms ++ (wLArr K 1 q_o f_o z ++ cs))) (hS : va_S A s.heap H locs)
    (hC : cells + 30 ≤ C) (hS2 : slots + 3300 ≤ S) (hC2 : C ≤ 620493) (hS3 : S ≤ 7234624) (kk : lwK p l e s m args below meth c Q A (dC, dI) K Rel b q_x q_m q_o f_o i C S 644) (hst : stB s l (dC, dI) K q_x q_m Rel yLW_put wc_LW_put yMO_put wc_MO_put [.int (nI (xn (xs (i + 1)))), .int (nI (xn (xs (i + 2))))] cs ms) : W p l e room_1 s m args below meth c H locs cells slots Q (F0 m 277 ls []) := by
  have hH : ∀ {H : Heap} {locs : List Loc}, va_S A s.heap H locs → ∀ q : Nat, q < s.heap.size → H[q]? = s.heap[q]? := fun hS q hq => hS.2.1 q hq (fun h => absurd (hAq q h) (by omega))
  have hx0 := (hd _ _ hR).1
  obtain ⟨F, G, rH, rM, k, r1, r2, hk3, hF1, hG1, hFG⟩ := hst
  have c1 := r1.2.1
  have c2 := r1.2.2.1
  have c3 := r2.2.1
  have c4 := r2.2.2.1
  refine lv_aload_n hx hb dLW_law_277 rfl (lv_at hl 1 rfl) ?_
  refine lv_aload_n hx hb dLW_law_278 rfl (lv_at hl 0 rfl) ?_
  refine lv_iload hx hb dLW_law_279 (lv_at hl 4 rfl) ?_
  refine lv_iconst (v := nI 1) hx hb dLW_law_281 (by decide +kernel) ?_
  refine lx_iadd hx hb dLW_law_282 ?_
  rw [show iA i 1 = i + 1 from by rw [iA_eq, Nat.mod_eq_of_lt (by omega)]]
  refine lw_read hx hb hX hAb hS (by omega) (by omega) dLW_law_283 ?_
  refine lv_aload_n hx hb dLW_law_284 rfl (lv_at hl 0 rfl) ?_
  refine lv_iload hx hb dLW_law_285 (lv_at hl 4 rfl) ?_
  refine lv_iconst (v := nI 2) hx hb dLW_law_287 (by decide +kernel) ?_
  refine lx_iadd hx hb dLW_law_288 ?_
  rw [show iA i 2 = i + 2 from by rw [iA_eq, Nat.mod_eq_of_lt (by omega)]]
  refine lw_read hx hb hX hAb hS (by omega) (by omega) dLW_law_289 ?_
  have hP : va_P (dC, dI) vwCl ((ms ++ wLArr K 1 q_o f_o z) ++ (([] : va_W) ++ cs)) H := by rw [List.append_assoc]; exact hP
  have hD : va_D A ((ms ++ wLArr K 1 q_o f_o z) ++ (([] : va_W) ++ cs)) := by rw [List.append_assoc]; exact hD
  refine cr_call (w0 := ms ++ wLArr K 1 q_o f_o z) (cs := ([] : va_W) ++ cs) (va_runSW (As := [.ref q_x, .int (nI (xn (xs (i + 1)))), .int (nI (xn (xs (i + 2))))]) (rest := []) ⟨hx, hb, hml, hown, hws⟩ (hF1 _) ⟨by have h9 := r1.1; show _ + 1 ≤ 10; omega, by have h9 := r1.2.2.2; show 8 + (4 + 11) + _ ≤ 360; omega⟩ (pay_in hws (WS_gd kw_LW_put)) List.mem_cons_self (hws _ kz_LW) ⟨by decide +kernel, by decide +kernel⟩ pl_LW_put (hws _ km_LW_72) (hws _ ks_LW_put) ⟨le_blind _ _ _, le_pre hP hD hK hE (hH hS) _⟩ rfl rfl hl.1 rfl (lv_room (Nat.le_of_ble_eq_true rfl)) dLW_law_290 ⟨by have h9 := r1.2.1; show _ ≤ 620493; omega, by have h9 := r1.2.2.1; show _ ≤ 7234624; omega⟩) hP hD hS hA (fun rv ws H locs hF hP hD hS => ?_)
  obtain ⟨w, rfl, hw2, hFw⟩ := hF
  rw [hw2] at hP hD
  refine lv_istore hx hb dLW_law_293 hl (by decide) rfl (fun ls hl => ?_)
  have hP : va_P (dC, dI) vwCl ((wLArr K 1 q_o f_o z ++ w) ++ ms) H := sw_P (by rw [← List.append_assoc]; exact hP)
  have hD : va_D A ((wLArr K 1 q_o f_o z ++ w) ++ ms) := sw_D (by rw [← List.append_assoc]; exact hD)
  refine lv_aload_n hx hb dLW_law_295 rfl (lv_at hl 3 rfl) ?_
  refine lv_aload_n hx hb dLW_law_296 rfl (lv_at hl 1 rfl) ?_
  refine lv_iload hx hb dLW_law_297 (lv_at hl 5 rfl) ?_
  refine lv_iconst (v := nI 1) hx hb dLW_law_299 (by decide +kernel) ?_
  refine lx_iadd hx hb dLW_law_300 ?_
  rw [show iA i 1 = i + 1 from by rw [iA_eq, Nat.mod_eq_of_lt (by omega)]]
  refine lw_read hx hb hX hAb hS (by omega) (by omega) dLW_law_301 ?_
  refine lv_aload_n hx hb dLW_law_302 rfl (lv_at hl 1 rfl) ?_
  refine lv_iload hx hb dLW_law_303 (lv_at hl 5 rfl) ?_
  refine lv_iconst (v := nI 2) hx hb dLW_law_305 (by decide +kernel) ?_
  refine lx_iadd hx hb dLW_law_306 ?_
  rw [show iA i 2 = i + 2 from by rw [iA_eq, Nat.mod_eq_of_lt (by omega)]]
  refine lw_read hx hb hX hAb hS (by omega) (by omega) dLW_law_307 ?_
  obtain ⟨vm, hm0⟩ := (hd _ _ hR).2
  refine cr_call (w0 := wLArr K 1 q_o f_o _ ++ _) (cs := _) (va_runV (As := [.int (nI (xn (xs (i + 1)))), .int (nI (xn (xs (i + 2))))]) (rest := []) ⟨hx, hb, hml, hown, hws⟩ (hG1 _) ⟨cb_MO_put hws _ (hws _ km_LW_75) ⟨by have h9 := r2.1; show _ + 1 ≤ 10; omega, by have h9 := r2.2.2.2; show 8 + (3 + 11) + _ ≤ 360; omega⟩, hws _ ki_MO_put, hws _ ke_MO_MO_put_MO_put⟩ ⟨le_blind _ _ _, va_recv (ci := 10) (q0 := 0) (q := (RMO, TMO, 15)) hK (app_P.mp hP).2 rfl hm0, le_pre hP hD hK hE (hH hS) _⟩ rfl rfl hl.1 rfl (lv_room (Nat.le_of_ble_eq_true rfl)) dLW_law_308 ⟨by have h9 := r2.2.1; show _ ≤ 620493; omega, by have h9 := r2.2.2.1; show _ ≤ 7234624; omega⟩) hP hD hS hA (fun rv ws H locs hF hP hD hS => ?_)
  obtain ⟨rfl, hGw⟩ := hF
  obtain ⟨hR2, rT, r3, hT1⟩ := hFG _ _ hFw hGw
  have c5 := r3.2.1
  have c6 := r3.2.2.1
  obtain ⟨vm2, hm0⟩ := (hd _ _ hR2).2
  refine lv_aload_n hx hb dLW_law_311 rfl (lv_at hl 3 rfl) ?_
  refine cr_call (w0 := wLArr K 1 q_o f_o _ ++ _) (cs := _) (va_runV (As := []) (rest := []) ⟨hx, hb, hml, hown, hws⟩ (hT1 _) ⟨cb_MO_thrown hws _ (hws _ km_LW_56) ⟨by have h9 := r3.1; show _ + 1 ≤ 10; omega, by have h9 := r3.2.2.2; show 8 + (1 + 11) + _ ≤ 360; omega⟩, hws _ ki_MO_thrown, hws _ ke_MO_MO_thrown_MO_thrown⟩ ⟨le_blind _ _ _, va_recv (ci := 10) (q0 := 0) (q := (RMO, TMO, 15)) hK (app_P.mp hP).2 rfl hm0, le_pre hP hD hK hE (hH hS) _⟩ rfl rfl hl.1 rfl (lv_room (Nat.le_of_ble_eq_true rfl)) dLW_law_312 ⟨by have h9 := r3.2.1; show _ ≤ 620493; omega, by have h9 := r3.2.2.1; show _ ≤ 7234624; omega⟩) hP hD hS hA (fun rv ws H locs hF hP hD hS => ?_)
  obtain ⟨rfl, hw3⟩ := hF
  rw [hw3] at hP hD
  refine lv_iload hx hb dLW_law_315 (lv_at hl 0 rfl) ?_
  refine lx_icmp_eq (X := some 0) (Y := none) (r := 0) (tgt := 322) hx hb dLW_law_317 (by decide) (by rw [(iEq_iff k k).mpr rfl]; rfl) (fun _ => ?_) (fun h => by cases h)
  refine lv_goto (tgt := 644) hx hb dLW_law_322 (by decide) ?_
  exact kk _ _ _ _ _ _ _ _ hR2 (lv_sub hl [1, 2, 3, 4, 5] rfl) (sw_P hP) (sw_D hD) hS (by have := r1.2.1; have := r2.2.1; have := r3.2.1; omega) (by have := r1.2.2.1; have := r2.2.2.1; have := r3.2.2.1; omega)
set_option maxHeartbeats 2000000 in
theorem lw_note {p : Program} {l : Launch} {e : Env} {s : State} {m : MethodId} {args : Array Value} {below : List Frame} {meth : Method} {c : Code} {Q : State → Prop} {A : Nat → Prop} {dC : Nat → ClassId} {dI : Nat → Nat → Nat} {K : Nat → ClassId} {Rel : va_W → va_W → Prop} {b q_x q_m q_o L i C S z cells slots : Nat} {f_o : Nat → Int64} {xs : Nat → Int32} {cs ms : va_W} {H : Heap} {locs : List Loc} {ls : Array Slot}
    (hx : p.tables.exec = Jvm.exec) (hb : c.code = cLW_law) (hml : c.maxLocals = 7) (hown : s.vm.findClass RLW = some m.cls) (hws : ∀ w ∈ WS, w.before args s = true) (hK : va_K (dC, dI) vwCl (tyK K) s) (hE : lE s s) (hX : va_X b L xs s s.heap) (hL : L ≤ 1536) (hAb : ¬ A b) (hA : ∀ q : Nat, s.heap.size ≤ q → A q) (hAq : ∀ q : Nat, A q → s.heap.size ≤ q)
    (hd : ∀ c' m', Rel c' m' → hdOk q_x q_m c' m') (hi : i + 2 < L) (hR : Rel cs ms) (hl : lv_has ls 7 [(0, .ref b), (1, .ref q_x), (2, .ref q_m), (3, .ref q_o), (4, .int (nI i))]) (hP : va_P (dC, dI) vwCl (ms ++ (wLArr K 1 q_o f_o z ++ cs)) H) (hD : va_D A (ms ++ (wLArr K 1 q_o f_o z ++ cs))) (hS : va_S A s.heap H locs)
    (hC : cells + 30 ≤ C) (hS2 : slots + 3300 ≤ S) (hC2 : C ≤ 620493) (hS3 : S ≤ 7234624) (kk : lwK p l e s m args below meth c Q A (dC, dI) K Rel b q_x q_m q_o f_o i C S 644) (hst : stA s l (dC, dI) K q_x q_m Rel yLW_note wc_LW_note yMO_note wc_MO_note [.int (nI (xn (xs (i + 1))))] cs ms) : W p l e room_1 s m args below meth c H locs cells slots Q (F0 m 325 ls []) := by
  have hH : ∀ {H : Heap} {locs : List Loc}, va_S A s.heap H locs → ∀ q : Nat, q < s.heap.size → H[q]? = s.heap[q]? := fun hS q hq => hS.2.1 q hq (fun h => absurd (hAq q h) (by omega))
  have hx0 := (hd _ _ hR).1
  obtain ⟨F, G, rH, rM, k, v, r1, r2, hk3, hF1, hG1, hFG⟩ := hst q_o f_o z
  have c1 := r1.2.1
  have c2 := r1.2.2.1
  have c3 := r2.2.1
  have c4 := r2.2.2.1
  refine lv_aload_n hx hb dLW_law_325 rfl (lv_at hl 1 rfl) ?_
  refine lv_aload_n hx hb dLW_law_326 rfl (lv_at hl 0 rfl) ?_
  refine lv_iload hx hb dLW_law_327 (lv_at hl 4 rfl) ?_
  refine lv_iconst (v := nI 1) hx hb dLW_law_329 (by decide +kernel) ?_
  refine lx_iadd hx hb dLW_law_330 ?_
  rw [show iA i 1 = i + 1 from by rw [iA_eq, Nat.mod_eq_of_lt (by omega)]]
  refine lw_read hx hb hX hAb hS (by omega) (by omega) dLW_law_331 ?_
  refine lv_aload_n hx hb dLW_law_332 rfl (lv_at hl 3 rfl) ?_
  refine cr_call (w0 := ms) (cs := wLArr K 1 q_o f_o z ++ cs) (va_runSW (As := [.ref q_x, .int (nI (xn (xs (i + 1)))), .ref q_o]) (rest := []) ⟨hx, hb, hml, hown, hws⟩ (hF1 _) ⟨by have h9 := r1.1; show _ + 1 ≤ 10; omega, by have h9 := r1.2.2.2; show 8 + (4 + 11) + _ ≤ 360; omega⟩ (pay_in hws (WS_gd kw_LW_note)) List.mem_cons_self (hws _ kz_LW) ⟨by decide +kernel, by decide +kernel⟩ pl_LW_note (hws _ km_LW_76) (hws _ ks_LW_note) ⟨le_blind _ _ _, le_pre hP hD hK hE (hH hS) _⟩ rfl rfl hl.1 rfl (lv_room (Nat.le_of_ble_eq_true rfl)) dLW_law_333 ⟨by have h9 := r1.2.1; show _ ≤ 620493; omega, by have h9 := r1.2.2.1; show _ ≤ 7234624; omega⟩) hP hD hS hA (fun rv ws H locs hF hP hD hS => ?_)
  obtain ⟨z2, w, rfl, rfl, hFw, hkz⟩ := hF
  refine lv_istore hx hb dLW_law_336 hl (by decide) rfl (fun ls hl => ?_)
  have hP := sw_P hP
  have hD := sw_D hD
  refine lv_aload_n hx hb dLW_law_338 rfl (lv_at hl 3 rfl) ?_
  refine lv_aload_n hx hb dLW_law_339 rfl (lv_at hl 1 rfl) ?_
  refine lv_iload hx hb dLW_law_340 (lv_at hl 5 rfl) ?_
  refine lv_iconst (v := nI 1) hx hb dLW_law_342 (by decide +kernel) ?_
  refine lx_iadd hx hb dLW_law_343 ?_
  rw [show iA i 1 = i + 1 from by rw [iA_eq, Nat.mod_eq_of_lt (by omega)]]
  refine lw_read hx hb hX hAb hS (by omega) (by omega) dLW_law_344 ?_
  obtain ⟨vm, hm0⟩ := (hd _ _ hR).2
  refine cr_call (w0 := wLArr K 1 q_o f_o _ ++ _) (cs := _) (va_runV (As := [.int (nI (xn (xs (i + 1))))]) (rest := []) ⟨hx, hb, hml, hown, hws⟩ (hG1 _) ⟨cb_MO_note hws _ (hws _ km_LW_78) ⟨by have h9 := r2.1; show _ + 1 ≤ 10; omega, by have h9 := r2.2.2.2; show 8 + (2 + 11) + _ ≤ 360; omega⟩, hws _ ki_MO_note, hws _ ke_MO_MO_note_MO_note⟩ ⟨le_blind _ _ _, va_recv (ci := 10) (q0 := 0) (q := (RMO, TMO, 15)) hK (app_P.mp hP).2 rfl hm0, le_pre hP hD hK hE (hH hS) _⟩ rfl rfl hl.1 rfl (lv_room (Nat.le_of_ble_eq_true rfl)) dLW_law_345 ⟨by have h9 := r2.2.1; show _ ≤ 620493; omega, by have h9 := r2.2.2.1; show _ ≤ 7234624; omega⟩) hP hD hS hA (fun rv ws H locs hF hP hD hS => ?_)
  obtain ⟨rfl, hGw⟩ := hF
  obtain ⟨hR2, rT, r3, hT1⟩ := hFG _ _ hFw hGw
  have c5 := r3.2.1
  have c6 := r3.2.2.1
  obtain ⟨vm2, hm0⟩ := (hd _ _ hR2).2
  refine lv_istore hx hb dLW_law_348 hl (by decide) rfl (fun ls hl => ?_)
  refine lv_aload_n hx hb dLW_law_350 rfl (lv_at hl 4 rfl) ?_
  refine cr_call (w0 := wLArr K 1 q_o f_o _ ++ _) (cs := _) (va_runV (As := []) (rest := []) ⟨hx, hb, hml, hown, hws⟩ (hT1 _) ⟨cb_MO_thrown hws _ (hws _ km_LW_56) ⟨by have h9 := r3.1; show _ + 1 ≤ 10; omega, by have h9 := r3.2.2.2; show 8 + (1 + 11) + _ ≤ 360; omega⟩, hws _ ki_MO_thrown, hws _ ke_MO_MO_thrown_MO_thrown⟩ ⟨le_blind _ _ _, va_recv (ci := 10) (q0 := 0) (q := (RMO, TMO, 15)) hK (app_P.mp hP).2 rfl hm0, le_pre hP hD hK hE (hH hS) _⟩ rfl rfl hl.1 rfl (lv_room (Nat.le_of_ble_eq_true rfl)) dLW_law_351 ⟨by have h9 := r3.2.1; show _ ≤ 620493; omega, by have h9 := r3.2.2.1; show _ ≤ 7234624; omega⟩) hP hD hS hA (fun rv ws H locs hF hP hD hS => ?_)
  obtain ⟨rfl, hw3⟩ := hF
  rw [hw3] at hP hD
  refine lv_iload hx hb dLW_law_354 (lv_at hl 1 rfl) ?_
  refine lx_icmp_eq (X := some 0) (Y := none) (r := 0) (tgt := 361) hx hb dLW_law_356 (by decide) (by rw [(iEq_iff k k).mpr rfl]; rfl) (fun _ => ?_) (fun h => by cases h)
  refine lv_iload hx hb dLW_law_361 (lv_at hl 1 rfl) ?_
  refine lx_if_ne (X := bif iEq k 0 then some 0 else none) (Y := bif iEq k 0 then none else some 0) (r := 0) (tgt := 378) hx hb dLW_law_363 (by decide) (by cases iEq k 0 <;> rfl) (fun h0 => ?_) (fun h0 => ?_)
  · refine lv_goto (tgt := 644) hx hb dLW_law_378 (by decide) ?_
    exact kk _ _ _ _ _ _ _ _ hR2 (lv_sub hl [2, 3, 4, 5, 6] rfl) (sw_P hP) (sw_D hD) hS (by have := r1.2.1; have := r2.2.1; have := r3.2.1; omega) (by have := r1.2.2.1; have := r2.2.2.1; have := r3.2.2.1; omega)
  · have hk0 : k = 0 := by
      cases h9 : iEq k 0 with
      | false => rw [h9] at h0; cases h0
      | true =>
        rw [iEq_eq] at h9
        have h10 := Nat.eq_of_beq_eq_true h9
        omega
    refine lv_aload_n hx hb dLW_law_366 rfl (lv_at hl 5 rfl) ?_
    refine lv_iconst (v := nI 0) hx hb dLW_law_367 (by decide +kernel) ?_
    refine lx_lald hx hb hK (app_P.mp (app_P.mp hP).1).1 0 2 rfl rfl (by decide) dLW_law_368 (k := fun _ => some 0) (r := 0) (rdL_k (hkz hk0) (by decide)) (fun u hu _ => ?_)
    obtain rfl : u = jX v := by have h9 := hkz hk0; omega
    refine lv_iload hx hb dLW_law_369 (lv_at hl 0 rfl) ?_
    refine lx_i2l hx hb dLW_law_371 ?_
    refine lx_lcmp hx hb dLW_law_372 ?_
    rw [jC_self]
    refine lx_if_eq (X := some 0) (Y := none) (r := 0) (tgt := 378) hx hb dLW_law_373 (by decide) (by rw [(iEq_iff 0 0).mpr rfl]; rfl) (fun _ => ?_) (fun h => by cases h)
    refine lv_goto (tgt := 644) hx hb dLW_law_378 (by decide) ?_
    exact kk _ _ _ _ _ _ _ _ hR2 (lv_sub hl [2, 3, 4, 5, 6] rfl) (sw_P hP) (sw_D hD) hS (by have := r1.2.1; have := r2.2.1; have := r3.2.1; omega) (by have := r1.2.2.1; have := r2.2.2.1; have := r3.2.2.1; omega)
set_option maxHeartbeats 2000000 in
theorem lw_show {p : Program} {l : Launch} {e : Env} {s : State} {m : MethodId} {args : Array Value} {below : List Frame} {meth : Method} {c : Code} {Q : State → Prop} {A : Nat → Prop} {dC : Nat → ClassId} {dI : Nat → Nat → Nat} {K : Nat → ClassId} {Rel : va_W → va_W → Prop} {b q_x q_m q_o L i C S z cells slots : Nat} {f_o : Nat → Int64} {xs : Nat → Int32} {cs ms : va_W} {H : Heap} {locs : List Loc} {ls : Array Slot}
    (hx : p.tables.exec = Jvm.exec) (hb : c.code = cLW_law) (hml : c.maxLocals = 7) (hown : s.vm.findClass RLW = some m.cls) (hws : ∀ w ∈ WS, w.before args s = true) (hK : va_K (dC, dI) vwCl (tyK K) s) (hE : lE s s) (hX : va_X b L xs s s.heap) (hL : L ≤ 1536) (hAb : ¬ A b) (hA : ∀ q : Nat, s.heap.size ≤ q → A q) (hAq : ∀ q : Nat, A q → s.heap.size ≤ q)
    (hd : ∀ c' m', Rel c' m' → hdOk q_x q_m c' m') (hi : i + 2 < L) (hR : Rel cs ms) (hl : lv_has ls 7 [(0, .ref b), (1, .ref q_x), (2, .ref q_m), (3, .ref q_o), (4, .int (nI i))]) (hP : va_P (dC, dI) vwCl (ms ++ (wLArr K 1 q_o f_o z ++ cs)) H) (hD : va_D A (ms ++ (wLArr K 1 q_o f_o z ++ cs))) (hS : va_S A s.heap H locs)
    (hC : cells + 30 ≤ C) (hS2 : slots + 3300 ≤ S) (hC2 : C ≤ 620493) (hS3 : S ≤ 7234624) (kk : lwK p l e s m args below meth c Q A (dC, dI) K Rel b q_x q_m q_o f_o i C S 644) (hst : stA s l (dC, dI) K q_x q_m Rel yLW_show wc_LW_show yMO_show wc_MO_show [.int (nI (xn (xs (i + 1))))] cs ms) : W p l e room_1 s m args below meth c H locs cells slots Q (F0 m 381 ls []) := by
  have hH : ∀ {H : Heap} {locs : List Loc}, va_S A s.heap H locs → ∀ q : Nat, q < s.heap.size → H[q]? = s.heap[q]? := fun hS q hq => hS.2.1 q hq (fun h => absurd (hAq q h) (by omega))
  have hx0 := (hd _ _ hR).1
  obtain ⟨F, G, rH, rM, k, v, r1, r2, hk3, hF1, hG1, hFG⟩ := hst q_o f_o z
  have c1 := r1.2.1
  have c2 := r1.2.2.1
  have c3 := r2.2.1
  have c4 := r2.2.2.1
  refine lv_aload_n hx hb dLW_law_381 rfl (lv_at hl 1 rfl) ?_
  refine lv_aload_n hx hb dLW_law_382 rfl (lv_at hl 0 rfl) ?_
  refine lv_iload hx hb dLW_law_383 (lv_at hl 4 rfl) ?_
  refine lv_iconst (v := nI 1) hx hb dLW_law_385 (by decide +kernel) ?_
  refine lx_iadd hx hb dLW_law_386 ?_
  rw [show iA i 1 = i + 1 from by rw [iA_eq, Nat.mod_eq_of_lt (by omega)]]
  refine lw_read hx hb hX hAb hS (by omega) (by omega) dLW_law_387 ?_
  refine lv_aload_n hx hb dLW_law_388 rfl (lv_at hl 3 rfl) ?_
  refine cr_call (w0 := ms) (cs := wLArr K 1 q_o f_o z ++ cs) (va_runSW (As := [.ref q_x, .int (nI (xn (xs (i + 1)))), .ref q_o]) (rest := []) ⟨hx, hb, hml, hown, hws⟩ (hF1 _) ⟨by have h9 := r1.1; show _ + 1 ≤ 10; omega, by have h9 := r1.2.2.2; show 8 + (4 + 11) + _ ≤ 360; omega⟩ (pay_in hws (WS_gd kw_LW_show)) List.mem_cons_self (hws _ kz_LW) ⟨by decide +kernel, by decide +kernel⟩ pl_LW_show (hws _ km_LW_79) (hws _ ks_LW_show) ⟨le_blind _ _ _, le_pre hP hD hK hE (hH hS) _⟩ rfl rfl hl.1 rfl (lv_room (Nat.le_of_ble_eq_true rfl)) dLW_law_389 ⟨by have h9 := r1.2.1; show _ ≤ 620493; omega, by have h9 := r1.2.2.1; show _ ≤ 7234624; omega⟩) hP hD hS hA (fun rv ws H locs hF hP hD hS => ?_)
  obtain ⟨z2, w, rfl, rfl, hFw, hkz⟩ := hF
  refine lv_istore hx hb dLW_law_392 hl (by decide) rfl (fun ls hl => ?_)
  have hP := sw_P hP
  have hD := sw_D hD
  refine lv_aload_n hx hb dLW_law_394 rfl (lv_at hl 3 rfl) ?_
  refine lv_aload_n hx hb dLW_law_395 rfl (lv_at hl 1 rfl) ?_
  refine lv_iload hx hb dLW_law_396 (lv_at hl 5 rfl) ?_
  refine lv_iconst (v := nI 1) hx hb dLW_law_398 (by decide +kernel) ?_
  refine lx_iadd hx hb dLW_law_399 ?_
  rw [show iA i 1 = i + 1 from by rw [iA_eq, Nat.mod_eq_of_lt (by omega)]]
  refine lw_read hx hb hX hAb hS (by omega) (by omega) dLW_law_400 ?_
  obtain ⟨vm, hm0⟩ := (hd _ _ hR).2
  refine cr_call (w0 := wLArr K 1 q_o f_o _ ++ _) (cs := _) (va_runV (As := [.int (nI (xn (xs (i + 1))))]) (rest := []) ⟨hx, hb, hml, hown, hws⟩ (hG1 _) ⟨cb_MO_show hws _ (hws _ km_LW_81) ⟨by have h9 := r2.1; show _ + 1 ≤ 10; omega, by have h9 := r2.2.2.2; show 8 + (2 + 11) + _ ≤ 360; omega⟩, hws _ ki_MO_show, hws _ ke_MO_MO_show_MO_show⟩ ⟨le_blind _ _ _, va_recv (ci := 10) (q0 := 0) (q := (RMO, TMO, 15)) hK (app_P.mp hP).2 rfl hm0, le_pre hP hD hK hE (hH hS) _⟩ rfl rfl hl.1 rfl (lv_room (Nat.le_of_ble_eq_true rfl)) dLW_law_401 ⟨by have h9 := r2.2.1; show _ ≤ 620493; omega, by have h9 := r2.2.2.1; show _ ≤ 7234624; omega⟩) hP hD hS hA (fun rv ws H locs hF hP hD hS => ?_)
  obtain ⟨rfl, hGw⟩ := hF
  obtain ⟨hR2, rT, r3, hT1⟩ := hFG _ _ hFw hGw
  have c5 := r3.2.1
  have c6 := r3.2.2.1
  obtain ⟨vm2, hm0⟩ := (hd _ _ hR2).2
  refine lv_istore hx hb dLW_law_404 hl (by decide) rfl (fun ls hl => ?_)
  refine lv_aload_n hx hb dLW_law_406 rfl (lv_at hl 4 rfl) ?_
  refine cr_call (w0 := wLArr K 1 q_o f_o _ ++ _) (cs := _) (va_runV (As := []) (rest := []) ⟨hx, hb, hml, hown, hws⟩ (hT1 _) ⟨cb_MO_thrown hws _ (hws _ km_LW_56) ⟨by have h9 := r3.1; show _ + 1 ≤ 10; omega, by have h9 := r3.2.2.2; show 8 + (1 + 11) + _ ≤ 360; omega⟩, hws _ ki_MO_thrown, hws _ ke_MO_MO_thrown_MO_thrown⟩ ⟨le_blind _ _ _, va_recv (ci := 10) (q0 := 0) (q := (RMO, TMO, 15)) hK (app_P.mp hP).2 rfl hm0, le_pre hP hD hK hE (hH hS) _⟩ rfl rfl hl.1 rfl (lv_room (Nat.le_of_ble_eq_true rfl)) dLW_law_407 ⟨by have h9 := r3.2.1; show _ ≤ 620493; omega, by have h9 := r3.2.2.1; show _ ≤ 7234624; omega⟩) hP hD hS hA (fun rv ws H locs hF hP hD hS => ?_)
  obtain ⟨rfl, hw3⟩ := hF
  rw [hw3] at hP hD
  refine lv_iload hx hb dLW_law_410 (lv_at hl 1 rfl) ?_
  refine lx_icmp_eq (X := some 0) (Y := none) (r := 0) (tgt := 417) hx hb dLW_law_412 (by decide) (by rw [(iEq_iff k k).mpr rfl]; rfl) (fun _ => ?_) (fun h => by cases h)
  refine lv_iload hx hb dLW_law_417 (lv_at hl 1 rfl) ?_
  refine lx_if_ne (X := bif iEq k 0 then some 0 else none) (Y := bif iEq k 0 then none else some 0) (r := 0) (tgt := 434) hx hb dLW_law_419 (by decide) (by cases iEq k 0 <;> rfl) (fun h0 => ?_) (fun h0 => ?_)
  · refine lv_goto (tgt := 644) hx hb dLW_law_434 (by decide) ?_
    exact kk _ _ _ _ _ _ _ _ hR2 (lv_sub hl [2, 3, 4, 5, 6] rfl) (sw_P hP) (sw_D hD) hS (by have := r1.2.1; have := r2.2.1; have := r3.2.1; omega) (by have := r1.2.2.1; have := r2.2.2.1; have := r3.2.2.1; omega)
  · have hk0 : k = 0 := by
      cases h9 : iEq k 0 with
      | false => rw [h9] at h0; cases h0
      | true =>
        rw [iEq_eq] at h9
        have h10 := Nat.eq_of_beq_eq_true h9
        omega
    refine lv_aload_n hx hb dLW_law_422 rfl (lv_at hl 5 rfl) ?_
    refine lv_iconst (v := nI 0) hx hb dLW_law_423 (by decide +kernel) ?_
    refine lx_lald hx hb hK (app_P.mp (app_P.mp hP).1).1 0 2 rfl rfl (by decide) dLW_law_424 (k := fun _ => some 0) (r := 0) (rdL_k (hkz hk0) (by decide)) (fun u hu _ => ?_)
    obtain rfl : u = jX v := by have h9 := hkz hk0; omega
    refine lv_iload hx hb dLW_law_425 (lv_at hl 0 rfl) ?_
    refine lx_i2l hx hb dLW_law_427 ?_
    refine lx_lcmp hx hb dLW_law_428 ?_
    rw [jC_self]
    refine lx_if_eq (X := some 0) (Y := none) (r := 0) (tgt := 434) hx hb dLW_law_429 (by decide) (by rw [(iEq_iff 0 0).mpr rfl]; rfl) (fun _ => ?_) (fun h => by cases h)
    refine lv_goto (tgt := 644) hx hb dLW_law_434 (by decide) ?_
    exact kk _ _ _ _ _ _ _ _ hR2 (lv_sub hl [2, 3, 4, 5, 6] rfl) (sw_P hP) (sw_D hD) hS (by have := r1.2.1; have := r2.2.1; have := r3.2.1; omega) (by have := r1.2.2.1; have := r2.2.2.1; have := r3.2.2.1; omega)
set_option maxHeartbeats 2000000 in
theorem lw_take {p : Program} {l : Launch} {e : Env} {s : State} {m : MethodId} {args : Array Value} {below : List Frame} {meth : Method} {c : Code} {Q : State → Prop} {A : Nat → Prop} {dC : Nat → ClassId} {dI : Nat → Nat → Nat} {K : Nat → ClassId} {Rel : va_W → va_W → Prop} {b q_x q_m q_o L i C S z cells slots : Nat} {f_o : Nat → Int64} {xs : Nat → Int32} {cs ms : va_W} {H : Heap} {locs : List Loc} {ls : Array Slot}
    (hx : p.tables.exec = Jvm.exec) (hb : c.code = cLW_law) (hml : c.maxLocals = 7) (hown : s.vm.findClass RLW = some m.cls) (hws : ∀ w ∈ WS, w.before args s = true) (hK : va_K (dC, dI) vwCl (tyK K) s) (hE : lE s s) (hX : va_X b L xs s s.heap) (hL : L ≤ 1536) (hAb : ¬ A b) (hA : ∀ q : Nat, s.heap.size ≤ q → A q) (hAq : ∀ q : Nat, A q → s.heap.size ≤ q)
    (hd : ∀ c' m', Rel c' m' → hdOk q_x q_m c' m') (hi : i + 2 < L) (hR : Rel cs ms) (hl : lv_has ls 7 [(0, .ref b), (1, .ref q_x), (2, .ref q_m), (3, .ref q_o), (4, .int (nI i))]) (hP : va_P (dC, dI) vwCl (ms ++ (wLArr K 1 q_o f_o z ++ cs)) H) (hD : va_D A (ms ++ (wLArr K 1 q_o f_o z ++ cs))) (hS : va_S A s.heap H locs)
    (hC : cells + 30 ≤ C) (hS2 : slots + 3300 ≤ S) (hC2 : C ≤ 620493) (hS3 : S ≤ 7234624) (kk : lwK p l e s m args below meth c Q A (dC, dI) K Rel b q_x q_m q_o f_o i C S 644) (hst : stA s l (dC, dI) K q_x q_m Rel yLW_take wc_LW_take yMO_take wc_MO_take [.int (nI (xn (xs (i + 1))))] cs ms) : W p l e room_1 s m args below meth c H locs cells slots Q (F0 m 437 ls []) := by
  have hH : ∀ {H : Heap} {locs : List Loc}, va_S A s.heap H locs → ∀ q : Nat, q < s.heap.size → H[q]? = s.heap[q]? := fun hS q hq => hS.2.1 q hq (fun h => absurd (hAq q h) (by omega))
  have hx0 := (hd _ _ hR).1
  obtain ⟨F, G, rH, rM, k, v, r1, r2, hk3, hF1, hG1, hFG⟩ := hst q_o f_o z
  have c1 := r1.2.1
  have c2 := r1.2.2.1
  have c3 := r2.2.1
  have c4 := r2.2.2.1
  refine lv_aload_n hx hb dLW_law_437 rfl (lv_at hl 1 rfl) ?_
  refine lv_aload_n hx hb dLW_law_438 rfl (lv_at hl 0 rfl) ?_
  refine lv_iload hx hb dLW_law_439 (lv_at hl 4 rfl) ?_
  refine lv_iconst (v := nI 1) hx hb dLW_law_441 (by decide +kernel) ?_
  refine lx_iadd hx hb dLW_law_442 ?_
  rw [show iA i 1 = i + 1 from by rw [iA_eq, Nat.mod_eq_of_lt (by omega)]]
  refine lw_read hx hb hX hAb hS (by omega) (by omega) dLW_law_443 ?_
  refine lv_aload_n hx hb dLW_law_444 rfl (lv_at hl 3 rfl) ?_
  refine cr_call (w0 := ms) (cs := wLArr K 1 q_o f_o z ++ cs) (va_runSW (As := [.ref q_x, .int (nI (xn (xs (i + 1)))), .ref q_o]) (rest := []) ⟨hx, hb, hml, hown, hws⟩ (hF1 _) ⟨by have h9 := r1.1; show _ + 1 ≤ 10; omega, by have h9 := r1.2.2.2; show 8 + (4 + 11) + _ ≤ 360; omega⟩ (pay_in hws (WS_gd kw_LW_take)) List.mem_cons_self (hws _ kz_LW) ⟨by decide +kernel, by decide +kernel⟩ pl_LW_take (hws _ km_LW_82) (hws _ ks_LW_take) ⟨le_blind _ _ _, le_pre hP hD hK hE (hH hS) _⟩ rfl rfl hl.1 rfl (lv_room (Nat.le_of_ble_eq_true rfl)) dLW_law_445 ⟨by have h9 := r1.2.1; show _ ≤ 620493; omega, by have h9 := r1.2.2.1; show _ ≤ 7234624; omega⟩) hP hD hS hA (fun rv ws H locs hF hP hD hS => ?_)
  obtain ⟨z2, w, rfl, rfl, hFw, hkz⟩ := hF
  refine lv_istore hx hb dLW_law_448 hl (by decide) rfl (fun ls hl => ?_)
  have hP := sw_P hP
  have hD := sw_D hD
  refine lv_aload_n hx hb dLW_law_450 rfl (lv_at hl 3 rfl) ?_
  refine lv_aload_n hx hb dLW_law_451 rfl (lv_at hl 1 rfl) ?_
  refine lv_iload hx hb dLW_law_452 (lv_at hl 5 rfl) ?_
  refine lv_iconst (v := nI 1) hx hb dLW_law_454 (by decide +kernel) ?_
  refine lx_iadd hx hb dLW_law_455 ?_
  rw [show iA i 1 = i + 1 from by rw [iA_eq, Nat.mod_eq_of_lt (by omega)]]
  refine lw_read hx hb hX hAb hS (by omega) (by omega) dLW_law_456 ?_
  obtain ⟨vm, hm0⟩ := (hd _ _ hR).2
  refine cr_call (w0 := wLArr K 1 q_o f_o _ ++ _) (cs := _) (va_runV (As := [.int (nI (xn (xs (i + 1))))]) (rest := []) ⟨hx, hb, hml, hown, hws⟩ (hG1 _) ⟨cb_MO_take hws _ (hws _ km_LW_84) ⟨by have h9 := r2.1; show _ + 1 ≤ 10; omega, by have h9 := r2.2.2.2; show 8 + (3 + 11) + _ ≤ 360; omega⟩, hws _ ki_MO_take, hws _ ke_MO_MO_take_MO_take⟩ ⟨le_blind _ _ _, va_recv (ci := 10) (q0 := 0) (q := (RMO, TMO, 15)) hK (app_P.mp hP).2 rfl hm0, le_pre hP hD hK hE (hH hS) _⟩ rfl rfl hl.1 rfl (lv_room (Nat.le_of_ble_eq_true rfl)) dLW_law_457 ⟨by have h9 := r2.2.1; show _ ≤ 620493; omega, by have h9 := r2.2.2.1; show _ ≤ 7234624; omega⟩) hP hD hS hA (fun rv ws H locs hF hP hD hS => ?_)
  obtain ⟨rfl, hGw⟩ := hF
  obtain ⟨hR2, rT, r3, hT1⟩ := hFG _ _ hFw hGw
  have c5 := r3.2.1
  have c6 := r3.2.2.1
  obtain ⟨vm2, hm0⟩ := (hd _ _ hR2).2
  refine lv_istore hx hb dLW_law_460 hl (by decide) rfl (fun ls hl => ?_)
  refine lv_aload_n hx hb dLW_law_462 rfl (lv_at hl 4 rfl) ?_
  refine cr_call (w0 := wLArr K 1 q_o f_o _ ++ _) (cs := _) (va_runV (As := []) (rest := []) ⟨hx, hb, hml, hown, hws⟩ (hT1 _) ⟨cb_MO_thrown hws _ (hws _ km_LW_56) ⟨by have h9 := r3.1; show _ + 1 ≤ 10; omega, by have h9 := r3.2.2.2; show 8 + (1 + 11) + _ ≤ 360; omega⟩, hws _ ki_MO_thrown, hws _ ke_MO_MO_thrown_MO_thrown⟩ ⟨le_blind _ _ _, va_recv (ci := 10) (q0 := 0) (q := (RMO, TMO, 15)) hK (app_P.mp hP).2 rfl hm0, le_pre hP hD hK hE (hH hS) _⟩ rfl rfl hl.1 rfl (lv_room (Nat.le_of_ble_eq_true rfl)) dLW_law_463 ⟨by have h9 := r3.2.1; show _ ≤ 620493; omega, by have h9 := r3.2.2.1; show _ ≤ 7234624; omega⟩) hP hD hS hA (fun rv ws H locs hF hP hD hS => ?_)
  obtain ⟨rfl, hw3⟩ := hF
  rw [hw3] at hP hD
  refine lv_iload hx hb dLW_law_466 (lv_at hl 1 rfl) ?_
  refine lx_icmp_eq (X := some 0) (Y := none) (r := 0) (tgt := 473) hx hb dLW_law_468 (by decide) (by rw [(iEq_iff k k).mpr rfl]; rfl) (fun _ => ?_) (fun h => by cases h)
  refine lv_iload hx hb dLW_law_473 (lv_at hl 1 rfl) ?_
  refine lx_if_ne (X := bif iEq k 0 then some 0 else none) (Y := bif iEq k 0 then none else some 0) (r := 0) (tgt := 490) hx hb dLW_law_475 (by decide) (by cases iEq k 0 <;> rfl) (fun h0 => ?_) (fun h0 => ?_)
  · refine lv_goto (tgt := 644) hx hb dLW_law_490 (by decide) ?_
    exact kk _ _ _ _ _ _ _ _ hR2 (lv_sub hl [2, 3, 4, 5, 6] rfl) (sw_P hP) (sw_D hD) hS (by have := r1.2.1; have := r2.2.1; have := r3.2.1; omega) (by have := r1.2.2.1; have := r2.2.2.1; have := r3.2.2.1; omega)
  · have hk0 : k = 0 := by
      cases h9 : iEq k 0 with
      | false => rw [h9] at h0; cases h0
      | true =>
        rw [iEq_eq] at h9
        have h10 := Nat.eq_of_beq_eq_true h9
        omega
    refine lv_aload_n hx hb dLW_law_478 rfl (lv_at hl 5 rfl) ?_
    refine lv_iconst (v := nI 0) hx hb dLW_law_479 (by decide +kernel) ?_
    refine lx_lald hx hb hK (app_P.mp (app_P.mp hP).1).1 0 2 rfl rfl (by decide) dLW_law_480 (k := fun _ => some 0) (r := 0) (rdL_k (hkz hk0) (by decide)) (fun u hu _ => ?_)
    obtain rfl : u = jX v := by have h9 := hkz hk0; omega
    refine lv_iload hx hb dLW_law_481 (lv_at hl 0 rfl) ?_
    refine lx_i2l hx hb dLW_law_483 ?_
    refine lx_lcmp hx hb dLW_law_484 ?_
    rw [jC_self]
    refine lx_if_eq (X := some 0) (Y := none) (r := 0) (tgt := 490) hx hb dLW_law_485 (by decide) (by rw [(iEq_iff 0 0).mpr rfl]; rfl) (fun _ => ?_) (fun h => by cases h)
    refine lv_goto (tgt := 644) hx hb dLW_law_490 (by decide) ?_
    exact kk _ _ _ _ _ _ _ _ hR2 (lv_sub hl [2, 3, 4, 5, 6] rfl) (sw_P hP) (sw_D hD) hS (by have := r1.2.1; have := r2.2.1; have := r3.2.1; omega) (by have := r1.2.2.1; have := r2.2.2.1; have := r3.2.2.1; omega)
set_option maxHeartbeats 2000000 in
theorem lw_mirror {p : Program} {l : Launch} {e : Env} {s : State} {m : MethodId} {args : Array Value} {below : List Frame} {meth : Method} {c : Code} {Q : State → Prop} {A : Nat → Prop} {dC : Nat → ClassId} {dI : Nat → Nat → Nat} {K : Nat → ClassId} {Rel : va_W → va_W → Prop} {b q_x q_m q_o L i C S z cells slots : Nat} {f_o : Nat → Int64} {xs : Nat → Int32} {cs ms : va_W} {H : Heap} {locs : List Loc} {ls : Array Slot}
    (hx : p.tables.exec = Jvm.exec) (hb : c.code = cLW_law) (hml : c.maxLocals = 7) (hown : s.vm.findClass RLW = some m.cls) (hws : ∀ w ∈ WS, w.before args s = true) (hK : va_K (dC, dI) vwCl (tyK K) s) (hE : lE s s) (hX : va_X b L xs s s.heap) (hL : L ≤ 1536) (hAb : ¬ A b) (hA : ∀ q : Nat, s.heap.size ≤ q → A q) (hAq : ∀ q : Nat, A q → s.heap.size ≤ q)
    (hd : ∀ c' m', Rel c' m' → hdOk q_x q_m c' m') (hi : i + 2 < L) (hR : Rel cs ms) (hl : lv_has ls 7 [(0, .ref b), (1, .ref q_x), (2, .ref q_m), (3, .ref q_o), (4, .int (nI i))]) (hP : va_P (dC, dI) vwCl (ms ++ (wLArr K 1 q_o f_o z ++ cs)) H) (hD : va_D A (ms ++ (wLArr K 1 q_o f_o z ++ cs))) (hS : va_S A s.heap H locs)
    (hC : cells + 30 ≤ C) (hS2 : slots + 3300 ≤ S) (hC2 : C ≤ 620493) (hS3 : S ≤ 7234624) (kk : lwK p l e s m args below meth c Q A (dC, dI) K Rel b q_x q_m q_o f_o i C S 644) (hst : stC s l (dC, dI) K q_x q_m Rel yCW_mirror wc_CW_mirror yMO_mirror wc_MO_mirror cs ms) : W p l e room_1 s m args below meth c H locs cells slots Q (F0 m 493 ls []) := by
  have hH : ∀ {H : Heap} {locs : List Loc}, va_S A s.heap H locs → ∀ q : Nat, q < s.heap.size → H[q]? = s.heap[q]? := fun hS q hq => hS.2.1 q hq (fun h => absurd (hAq q h) (by omega))
  obtain ⟨vx, hx0⟩ := (hd _ _ hR).1
  obtain ⟨F, G, rX, rM, v, r1, r2, hF1, hG1, hFG⟩ := hst
  have c1 := r1.2.1
  have c2 := r1.2.2.1
  have c3 := r2.2.1
  have c4 := r2.2.2.1
  refine lv_aload_n hx hb dLW_law_493 rfl (lv_at hl 1 rfl) ?_
  have hP : va_P (dC, dI) vwCl ((ms ++ wLArr K 1 q_o f_o z) ++ cs) H := by rw [List.append_assoc]; exact hP
  have hD : va_D A ((ms ++ wLArr K 1 q_o f_o z) ++ cs) := by rw [List.append_assoc]; exact hD
  refine cr_call (w0 := ms ++ wLArr K 1 q_o f_o z) (cs := cs) (va_runV (As := []) (rest := []) ⟨hx, hb, hml, hown, hws⟩ (hF1 _) ⟨cb_CW_mirror hws _ (hws _ km_LW_85) ⟨by have h9 := r1.1; show _ + 1 ≤ 10; omega, by have h9 := r1.2.2.2; show 8 + (3 + 11) + _ ≤ 360; omega⟩, hws _ ki_CW_mirror, hws _ ke_CW_CW_mirror_CW_mirror⟩ ⟨le_blind _ _ _, va_recv (ci := 9) (q0 := 0) (q := (RCW, TCW, 9)) hK (app_P.mp hP).2 rfl hx0, le_pre hP hD hK hE (hH hS) _⟩ rfl rfl hl.1 rfl (lv_room (Nat.le_of_ble_eq_true rfl)) dLW_law_494 ⟨by have h9 := r1.2.1; show _ ≤ 620493; omega, by have h9 := r1.2.2.1; show _ ≤ 7234624; omega⟩) hP hD hS hA (fun rv ws H locs hF hP hD hS => ?_)
  obtain ⟨rfl, hFw⟩ := hF
  have hP : va_P (dC, dI) vwCl ((wLArr K 1 q_o f_o z ++ ws) ++ ms) H := sw_P (by rw [← List.append_assoc]; exact hP)
  have hD : va_D A ((wLArr K 1 q_o f_o z ++ ws) ++ ms) := sw_D (by rw [← List.append_assoc]; exact hD)
  refine lv_aload_n hx hb dLW_law_497 rfl (lv_at hl 2 rfl) ?_
  obtain ⟨vm, hm0⟩ := (hd _ _ hR).2
  refine cr_call (w0 := wLArr K 1 q_o f_o _ ++ _) (cs := _) (va_runV (As := []) (rest := [.int (nI v)]) ⟨hx, hb, hml, hown, hws⟩ (hG1 _) ⟨cb_MO_mirror hws _ (hws _ km_LW_88) ⟨by have h9 := r2.1; show _ + 1 ≤ 10; omega, by have h9 := r2.2.2.2; show 8 + (2 + 11) + _ ≤ 360; omega⟩, hws _ ki_MO_mirror, hws _ ke_MO_MO_mirror_MO_mirror⟩ ⟨le_blind _ _ _, va_recv (ci := 10) (q0 := 0) (q := (RMO, TMO, 15)) hK (app_P.mp hP).2 rfl hm0, le_pre hP hD hK hE (hH hS) _⟩ rfl rfl hl.1 rfl (lv_room (Nat.le_of_ble_eq_true rfl)) dLW_law_498 ⟨by have h9 := r2.2.1; show _ ≤ 620493; omega, by have h9 := r2.2.2.1; show _ ≤ 7234624; omega⟩) hP hD hS hA (fun rv ws H locs hF hP hD hS => ?_)
  obtain ⟨rfl, hGw⟩ := hF
  have hR2 := hFG _ _ hFw hGw
  refine lx_icmp_eq (X := some 0) (Y := none) (r := 0) (tgt := 644) hx hb dLW_law_501 (by decide) (by rw [(iEq_iff v v).mpr rfl]; rfl) (fun _ => ?_) (fun h => by cases h)
  exact kk _ _ _ _ _ _ _ _ hR2 hl (sw_P hP) (sw_D hD) hS (by have := r1.2.1; have := r2.2.1; omega) (by have := r1.2.2.1; have := r2.2.2.1; omega)
set_option maxHeartbeats 2000000 in
theorem lw_turn {p : Program} {l : Launch} {e : Env} {s : State} {m : MethodId} {args : Array Value} {below : List Frame} {meth : Method} {c : Code} {Q : State → Prop} {A : Nat → Prop} {dC : Nat → ClassId} {dI : Nat → Nat → Nat} {K : Nat → ClassId} {Rel : va_W → va_W → Prop} {b q_x q_m q_o L i C S z cells slots : Nat} {f_o : Nat → Int64} {xs : Nat → Int32} {cs ms : va_W} {H : Heap} {locs : List Loc} {ls : Array Slot}
    (hx : p.tables.exec = Jvm.exec) (hb : c.code = cLW_law) (hml : c.maxLocals = 7) (hown : s.vm.findClass RLW = some m.cls) (hws : ∀ w ∈ WS, w.before args s = true) (hK : va_K (dC, dI) vwCl (tyK K) s) (hE : lE s s) (hX : va_X b L xs s s.heap) (hL : L ≤ 1536) (hAb : ¬ A b) (hA : ∀ q : Nat, s.heap.size ≤ q → A q) (hAq : ∀ q : Nat, A q → s.heap.size ≤ q)
    (hd : ∀ c' m', Rel c' m' → hdOk q_x q_m c' m') (hi : i + 2 < L) (hR : Rel cs ms) (hl : lv_has ls 7 [(0, .ref b), (1, .ref q_x), (2, .ref q_m), (3, .ref q_o), (4, .int (nI i))]) (hP : va_P (dC, dI) vwCl (ms ++ (wLArr K 1 q_o f_o z ++ cs)) H) (hD : va_D A (ms ++ (wLArr K 1 q_o f_o z ++ cs))) (hS : va_S A s.heap H locs)
    (hC : cells + 30 ≤ C) (hS2 : slots + 3300 ≤ S) (hC2 : C ≤ 620493) (hS3 : S ≤ 7234624) (kk : lwK p l e s m args below meth c Q A (dC, dI) K Rel b q_x q_m q_o f_o i C S 644) (hst : stC s l (dC, dI) K q_x q_m Rel yCW_turn wc_CW_turn yMO_turn wc_MO_turn cs ms) : W p l e room_1 s m args below meth c H locs cells slots Q (F0 m 506 ls []) := by
  have hH : ∀ {H : Heap} {locs : List Loc}, va_S A s.heap H locs → ∀ q : Nat, q < s.heap.size → H[q]? = s.heap[q]? := fun hS q hq => hS.2.1 q hq (fun h => absurd (hAq q h) (by omega))
  obtain ⟨vx, hx0⟩ := (hd _ _ hR).1
  obtain ⟨F, G, rX, rM, v, r1, r2, hF1, hG1, hFG⟩ := hst
  have c1 := r1.2.1
  have c2 := r1.2.2.1
  have c3 := r2.2.1
  have c4 := r2.2.2.1
  refine lv_aload_n hx hb dLW_law_506 rfl (lv_at hl 1 rfl) ?_
  have hP : va_P (dC, dI) vwCl ((ms ++ wLArr K 1 q_o f_o z) ++ cs) H := by rw [List.append_assoc]; exact hP
  have hD : va_D A ((ms ++ wLArr K 1 q_o f_o z) ++ cs) := by rw [List.append_assoc]; exact hD
  refine cr_call (w0 := ms ++ wLArr K 1 q_o f_o z) (cs := cs) (va_runV (As := []) (rest := []) ⟨hx, hb, hml, hown, hws⟩ (hF1 _) ⟨cb_CW_turn hws _ (hws _ km_LW_89) ⟨by have h9 := r1.1; show _ + 1 ≤ 10; omega, by have h9 := r1.2.2.2; show 8 + (1 + 11) + _ ≤ 360; omega⟩, hws _ ki_CW_turn, hws _ ke_CW_CW_turn_CW_turn⟩ ⟨le_blind _ _ _, va_recv (ci := 9) (q0 := 0) (q := (RCW, TCW, 9)) hK (app_P.mp hP).2 rfl hx0, le_pre hP hD hK hE (hH hS) _⟩ rfl rfl hl.1 rfl (lv_room (Nat.le_of_ble_eq_true rfl)) dLW_law_507 ⟨by have h9 := r1.2.1; show _ ≤ 620493; omega, by have h9 := r1.2.2.1; show _ ≤ 7234624; omega⟩) hP hD hS hA (fun rv ws H locs hF hP hD hS => ?_)
  obtain ⟨rfl, hFw⟩ := hF
  have hP : va_P (dC, dI) vwCl ((wLArr K 1 q_o f_o z ++ ws) ++ ms) H := sw_P (by rw [← List.append_assoc]; exact hP)
  have hD : va_D A ((wLArr K 1 q_o f_o z ++ ws) ++ ms) := sw_D (by rw [← List.append_assoc]; exact hD)
  refine lv_aload_n hx hb dLW_law_510 rfl (lv_at hl 2 rfl) ?_
  obtain ⟨vm, hm0⟩ := (hd _ _ hR).2
  refine cr_call (w0 := wLArr K 1 q_o f_o _ ++ _) (cs := _) (va_runV (As := []) (rest := [.int (nI v)]) ⟨hx, hb, hml, hown, hws⟩ (hG1 _) ⟨cb_MO_turn hws _ (hws _ km_LW_92) ⟨by have h9 := r2.1; show _ + 1 ≤ 10; omega, by have h9 := r2.2.2.2; show 8 + (3 + 11) + _ ≤ 360; omega⟩, hws _ ki_MO_turn, hws _ ke_MO_MO_turn_MO_turn⟩ ⟨le_blind _ _ _, va_recv (ci := 10) (q0 := 0) (q := (RMO, TMO, 15)) hK (app_P.mp hP).2 rfl hm0, le_pre hP hD hK hE (hH hS) _⟩ rfl rfl hl.1 rfl (lv_room (Nat.le_of_ble_eq_true rfl)) dLW_law_511 ⟨by have h9 := r2.2.1; show _ ≤ 620493; omega, by have h9 := r2.2.2.1; show _ ≤ 7234624; omega⟩) hP hD hS hA (fun rv ws H locs hF hP hD hS => ?_)
  obtain ⟨rfl, hGw⟩ := hF
  have hR2 := hFG _ _ hFw hGw
  refine lx_icmp_eq (X := some 0) (Y := none) (r := 0) (tgt := 644) hx hb dLW_law_514 (by decide) (by rw [(iEq_iff v v).mpr rfl]; rfl) (fun _ => ?_) (fun h => by cases h)
  exact kk _ _ _ _ _ _ _ _ hR2 hl (sw_P hP) (sw_D hD) hS (by have := r1.2.1; have := r2.2.1; omega) (by have := r1.2.2.1; have := r2.2.2.1; omega)
set_option maxHeartbeats 2000000 in
theorem lw_complement {p : Program} {l : Launch} {e : Env} {s : State} {m : MethodId} {args : Array Value} {below : List Frame} {meth : Method} {c : Code} {Q : State → Prop} {A : Nat → Prop} {dC : Nat → ClassId} {dI : Nat → Nat → Nat} {K : Nat → ClassId} {Rel : va_W → va_W → Prop} {b q_x q_m q_o L i C S z cells slots : Nat} {f_o : Nat → Int64} {xs : Nat → Int32} {cs ms : va_W} {H : Heap} {locs : List Loc} {ls : Array Slot}
    (hx : p.tables.exec = Jvm.exec) (hb : c.code = cLW_law) (hml : c.maxLocals = 7) (hown : s.vm.findClass RLW = some m.cls) (hws : ∀ w ∈ WS, w.before args s = true) (hK : va_K (dC, dI) vwCl (tyK K) s) (hE : lE s s) (hX : va_X b L xs s s.heap) (hL : L ≤ 1536) (hAb : ¬ A b) (hA : ∀ q : Nat, s.heap.size ≤ q → A q) (hAq : ∀ q : Nat, A q → s.heap.size ≤ q)
    (hd : ∀ c' m', Rel c' m' → hdOk q_x q_m c' m') (hi : i + 2 < L) (hR : Rel cs ms) (hl : lv_has ls 7 [(0, .ref b), (1, .ref q_x), (2, .ref q_m), (3, .ref q_o), (4, .int (nI i))]) (hP : va_P (dC, dI) vwCl (ms ++ (wLArr K 1 q_o f_o z ++ cs)) H) (hD : va_D A (ms ++ (wLArr K 1 q_o f_o z ++ cs))) (hS : va_S A s.heap H locs)
    (hC : cells + 30 ≤ C) (hS2 : slots + 3300 ≤ S) (hC2 : C ≤ 620493) (hS3 : S ≤ 7234624) (kk : lwK p l e s m args below meth c Q A (dC, dI) K Rel b q_x q_m q_o f_o i C S 644) (hst : stC s l (dC, dI) K q_x q_m Rel yCW_complement wc_CW_complement yMO_complement wc_MO_complement cs ms) : W p l e room_1 s m args below meth c H locs cells slots Q (F0 m 519 ls []) := by
  have hH : ∀ {H : Heap} {locs : List Loc}, va_S A s.heap H locs → ∀ q : Nat, q < s.heap.size → H[q]? = s.heap[q]? := fun hS q hq => hS.2.1 q hq (fun h => absurd (hAq q h) (by omega))
  obtain ⟨vx, hx0⟩ := (hd _ _ hR).1
  obtain ⟨F, G, rX, rM, v, r1, r2, hF1, hG1, hFG⟩ := hst
  have c1 := r1.2.1
  have c2 := r1.2.2.1
  have c3 := r2.2.1
  have c4 := r2.2.2.1
  refine lv_aload_n hx hb dLW_law_519 rfl (lv_at hl 1 rfl) ?_
  have hP : va_P (dC, dI) vwCl ((ms ++ wLArr K 1 q_o f_o z) ++ cs) H := by rw [List.append_assoc]; exact hP
  have hD : va_D A ((ms ++ wLArr K 1 q_o f_o z) ++ cs) := by rw [List.append_assoc]; exact hD
  refine cr_call (w0 := ms ++ wLArr K 1 q_o f_o z) (cs := cs) (va_runV (As := []) (rest := []) ⟨hx, hb, hml, hown, hws⟩ (hF1 _) ⟨cb_CW_complement hws _ (hws _ km_LW_93) ⟨by have h9 := r1.1; show _ + 1 ≤ 10; omega, by have h9 := r1.2.2.2; show 8 + (1 + 11) + _ ≤ 360; omega⟩, hws _ ki_CW_complement, hws _ ke_CW_CW_complement_CW_complement⟩ ⟨le_blind _ _ _, va_recv (ci := 9) (q0 := 0) (q := (RCW, TCW, 9)) hK (app_P.mp hP).2 rfl hx0, le_pre hP hD hK hE (hH hS) _⟩ rfl rfl hl.1 rfl (lv_room (Nat.le_of_ble_eq_true rfl)) dLW_law_520 ⟨by have h9 := r1.2.1; show _ ≤ 620493; omega, by have h9 := r1.2.2.1; show _ ≤ 7234624; omega⟩) hP hD hS hA (fun rv ws H locs hF hP hD hS => ?_)
  obtain ⟨rfl, hFw⟩ := hF
  have hP : va_P (dC, dI) vwCl ((wLArr K 1 q_o f_o z ++ ws) ++ ms) H := sw_P (by rw [← List.append_assoc]; exact hP)
  have hD : va_D A ((wLArr K 1 q_o f_o z ++ ws) ++ ms) := sw_D (by rw [← List.append_assoc]; exact hD)
  refine lv_aload_n hx hb dLW_law_523 rfl (lv_at hl 2 rfl) ?_
  obtain ⟨vm, hm0⟩ := (hd _ _ hR).2
  refine cr_call (w0 := wLArr K 1 q_o f_o _ ++ _) (cs := _) (va_runV (As := []) (rest := [.int (nI v)]) ⟨hx, hb, hml, hown, hws⟩ (hG1 _) ⟨cb_MO_complement hws _ (hws _ km_LW_96) ⟨by have h9 := r2.1; show _ + 1 ≤ 10; omega, by have h9 := r2.2.2.2; show 8 + (4 + 11) + _ ≤ 360; omega⟩, hws _ ki_MO_complement, hws _ ke_MO_MO_complement_MO_complement⟩ ⟨le_blind _ _ _, va_recv (ci := 10) (q0 := 0) (q := (RMO, TMO, 15)) hK (app_P.mp hP).2 rfl hm0, le_pre hP hD hK hE (hH hS) _⟩ rfl rfl hl.1 rfl (lv_room (Nat.le_of_ble_eq_true rfl)) dLW_law_524 ⟨by have h9 := r2.2.1; show _ ≤ 620493; omega, by have h9 := r2.2.2.1; show _ ≤ 7234624; omega⟩) hP hD hS hA (fun rv ws H locs hF hP hD hS => ?_)
  obtain ⟨rfl, hGw⟩ := hF
  have hR2 := hFG _ _ hFw hGw
  refine lx_icmp_eq (X := some 0) (Y := none) (r := 0) (tgt := 644) hx hb dLW_law_527 (by decide) (by rw [(iEq_iff v v).mpr rfl]; rfl) (fun _ => ?_) (fun h => by cases h)
  exact kk _ _ _ _ _ _ _ _ hR2 hl (sw_P hP) (sw_D hD) hS (by have := r1.2.1; have := r2.2.1; omega) (by have := r1.2.2.1; have := r2.2.2.1; omega)
set_option maxHeartbeats 2000000 in
theorem lw_flip {p : Program} {l : Launch} {e : Env} {s : State} {m : MethodId} {args : Array Value} {below : List Frame} {meth : Method} {c : Code} {Q : State → Prop} {A : Nat → Prop} {dC : Nat → ClassId} {dI : Nat → Nat → Nat} {K : Nat → ClassId} {Rel : va_W → va_W → Prop} {b q_x q_m q_o L i C S z cells slots : Nat} {f_o : Nat → Int64} {xs : Nat → Int32} {cs ms : va_W} {H : Heap} {locs : List Loc} {ls : Array Slot}
    (hx : p.tables.exec = Jvm.exec) (hb : c.code = cLW_law) (hml : c.maxLocals = 7) (hown : s.vm.findClass RLW = some m.cls) (hws : ∀ w ∈ WS, w.before args s = true) (hK : va_K (dC, dI) vwCl (tyK K) s) (hE : lE s s) (hX : va_X b L xs s s.heap) (hL : L ≤ 1536) (hAb : ¬ A b) (hA : ∀ q : Nat, s.heap.size ≤ q → A q) (hAq : ∀ q : Nat, A q → s.heap.size ≤ q)
    (hd : ∀ c' m', Rel c' m' → hdOk q_x q_m c' m') (hi : i + 2 < L) (hR : Rel cs ms) (hl : lv_has ls 7 [(0, .ref b), (1, .ref q_x), (2, .ref q_m), (3, .ref q_o), (4, .int (nI i))]) (hP : va_P (dC, dI) vwCl (ms ++ (wLArr K 1 q_o f_o z ++ cs)) H) (hD : va_D A (ms ++ (wLArr K 1 q_o f_o z ++ cs))) (hS : va_S A s.heap H locs)
    (hC : cells + 30 ≤ C) (hS2 : slots + 3300 ≤ S) (hC2 : C ≤ 620493) (hS3 : S ≤ 7234624) (kk : lwK p l e s m args below meth c Q A (dC, dI) K Rel b q_x q_m q_o f_o i C S 644) (hst : stA s l (dC, dI) K q_x q_m Rel yLW_flip wc_LW_flip yMO_flip wc_MO_flip [.int (nI (xn (xs (i + 1))))] cs ms) : W p l e room_1 s m args below meth c H locs cells slots Q (F0 m 532 ls []) := by
  have hH : ∀ {H : Heap} {locs : List Loc}, va_S A s.heap H locs → ∀ q : Nat, q < s.heap.size → H[q]? = s.heap[q]? := fun hS q hq => hS.2.1 q hq (fun h => absurd (hAq q h) (by omega))
  have hx0 := (hd _ _ hR).1
  obtain ⟨F, G, rH, rM, k, v, r1, r2, hk3, hF1, hG1, hFG⟩ := hst q_o f_o z
  have c1 := r1.2.1
  have c2 := r1.2.2.1
  have c3 := r2.2.1
  have c4 := r2.2.2.1
  refine lv_aload_n hx hb dLW_law_532 rfl (lv_at hl 1 rfl) ?_
  refine lv_aload_n hx hb dLW_law_533 rfl (lv_at hl 0 rfl) ?_
  refine lv_iload hx hb dLW_law_534 (lv_at hl 4 rfl) ?_
  refine lv_iconst (v := nI 1) hx hb dLW_law_536 (by decide +kernel) ?_
  refine lx_iadd hx hb dLW_law_537 ?_
  rw [show iA i 1 = i + 1 from by rw [iA_eq, Nat.mod_eq_of_lt (by omega)]]
  refine lw_read hx hb hX hAb hS (by omega) (by omega) dLW_law_538 ?_
  refine lv_aload_n hx hb dLW_law_539 rfl (lv_at hl 3 rfl) ?_
  refine cr_call (w0 := ms) (cs := wLArr K 1 q_o f_o z ++ cs) (va_runSW (As := [.ref q_x, .int (nI (xn (xs (i + 1)))), .ref q_o]) (rest := []) ⟨hx, hb, hml, hown, hws⟩ (hF1 _) ⟨by have h9 := r1.1; show _ + 1 ≤ 10; omega, by have h9 := r1.2.2.2; show 8 + (4 + 11) + _ ≤ 360; omega⟩ (pay_in hws (WS_gd kw_LW_flip)) List.mem_cons_self (hws _ kz_LW) ⟨by decide +kernel, by decide +kernel⟩ pl_LW_flip (hws _ km_LW_97) (hws _ ks_LW_flip) ⟨le_blind _ _ _, le_pre hP hD hK hE (hH hS) _⟩ rfl rfl hl.1 rfl (lv_room (Nat.le_of_ble_eq_true rfl)) dLW_law_540 ⟨by have h9 := r1.2.1; show _ ≤ 620493; omega, by have h9 := r1.2.2.1; show _ ≤ 7234624; omega⟩) hP hD hS hA (fun rv ws H locs hF hP hD hS => ?_)
  obtain ⟨z2, w, rfl, rfl, hFw, hkz⟩ := hF
  refine lv_istore hx hb dLW_law_543 hl (by decide) rfl (fun ls hl => ?_)
  have hP := sw_P hP
  have hD := sw_D hD
  refine lv_aload_n hx hb dLW_law_545 rfl (lv_at hl 3 rfl) ?_
  refine lv_aload_n hx hb dLW_law_546 rfl (lv_at hl 1 rfl) ?_
  refine lv_iload hx hb dLW_law_547 (lv_at hl 5 rfl) ?_
  refine lv_iconst (v := nI 1) hx hb dLW_law_549 (by decide +kernel) ?_
  refine lx_iadd hx hb dLW_law_550 ?_
  rw [show iA i 1 = i + 1 from by rw [iA_eq, Nat.mod_eq_of_lt (by omega)]]
  refine lw_read hx hb hX hAb hS (by omega) (by omega) dLW_law_551 ?_
  obtain ⟨vm, hm0⟩ := (hd _ _ hR).2
  refine cr_call (w0 := wLArr K 1 q_o f_o _ ++ _) (cs := _) (va_runV (As := [.int (nI (xn (xs (i + 1))))]) (rest := []) ⟨hx, hb, hml, hown, hws⟩ (hG1 _) ⟨cb_MO_flip hws _ (hws _ km_LW_99) ⟨by have h9 := r2.1; show _ + 1 ≤ 10; omega, by have h9 := r2.2.2.2; show 8 + (9 + 11) + _ ≤ 360; omega⟩, hws _ ki_MO_flip, hws _ ke_MO_MO_flip_MO_flip⟩ ⟨le_blind _ _ _, va_recv (ci := 10) (q0 := 0) (q := (RMO, TMO, 15)) hK (app_P.mp hP).2 rfl hm0, le_pre hP hD hK hE (hH hS) _⟩ rfl rfl hl.1 rfl (lv_room (Nat.le_of_ble_eq_true rfl)) dLW_law_552 ⟨by have h9 := r2.2.1; show _ ≤ 620493; omega, by have h9 := r2.2.2.1; show _ ≤ 7234624; omega⟩) hP hD hS hA (fun rv ws H locs hF hP hD hS => ?_)
  obtain ⟨rfl, hGw⟩ := hF
  obtain ⟨hR2, rT, r3, hT1⟩ := hFG _ _ hFw hGw
  have c5 := r3.2.1
  have c6 := r3.2.2.1
  obtain ⟨vm2, hm0⟩ := (hd _ _ hR2).2
  refine lv_istore hx hb dLW_law_555 hl (by decide) rfl (fun ls hl => ?_)
  refine lv_aload_n hx hb dLW_law_557 rfl (lv_at hl 4 rfl) ?_
  refine cr_call (w0 := wLArr K 1 q_o f_o _ ++ _) (cs := _) (va_runV (As := []) (rest := []) ⟨hx, hb, hml, hown, hws⟩ (hT1 _) ⟨cb_MO_thrown hws _ (hws _ km_LW_56) ⟨by have h9 := r3.1; show _ + 1 ≤ 10; omega, by have h9 := r3.2.2.2; show 8 + (1 + 11) + _ ≤ 360; omega⟩, hws _ ki_MO_thrown, hws _ ke_MO_MO_thrown_MO_thrown⟩ ⟨le_blind _ _ _, va_recv (ci := 10) (q0 := 0) (q := (RMO, TMO, 15)) hK (app_P.mp hP).2 rfl hm0, le_pre hP hD hK hE (hH hS) _⟩ rfl rfl hl.1 rfl (lv_room (Nat.le_of_ble_eq_true rfl)) dLW_law_558 ⟨by have h9 := r3.2.1; show _ ≤ 620493; omega, by have h9 := r3.2.2.1; show _ ≤ 7234624; omega⟩) hP hD hS hA (fun rv ws H locs hF hP hD hS => ?_)
  obtain ⟨rfl, hw3⟩ := hF
  rw [hw3] at hP hD
  refine lv_iload hx hb dLW_law_561 (lv_at hl 1 rfl) ?_
  refine lx_icmp_eq (X := some 0) (Y := none) (r := 0) (tgt := 568) hx hb dLW_law_563 (by decide) (by rw [(iEq_iff k k).mpr rfl]; rfl) (fun _ => ?_) (fun h => by cases h)
  refine lv_iload hx hb dLW_law_568 (lv_at hl 1 rfl) ?_
  refine lx_if_ne (X := bif iEq k 0 then some 0 else none) (Y := bif iEq k 0 then none else some 0) (r := 0) (tgt := 585) hx hb dLW_law_570 (by decide) (by cases iEq k 0 <;> rfl) (fun h0 => ?_) (fun h0 => ?_)
  · refine lv_goto (tgt := 644) hx hb dLW_law_585 (by decide) ?_
    exact kk _ _ _ _ _ _ _ _ hR2 (lv_sub hl [2, 3, 4, 5, 6] rfl) (sw_P hP) (sw_D hD) hS (by have := r1.2.1; have := r2.2.1; have := r3.2.1; omega) (by have := r1.2.2.1; have := r2.2.2.1; have := r3.2.2.1; omega)
  · have hk0 : k = 0 := by
      cases h9 : iEq k 0 with
      | false => rw [h9] at h0; cases h0
      | true =>
        rw [iEq_eq] at h9
        have h10 := Nat.eq_of_beq_eq_true h9
        omega
    refine lv_aload_n hx hb dLW_law_573 rfl (lv_at hl 5 rfl) ?_
    refine lv_iconst (v := nI 0) hx hb dLW_law_574 (by decide +kernel) ?_
    refine lx_lald hx hb hK (app_P.mp (app_P.mp hP).1).1 0 2 rfl rfl (by decide) dLW_law_575 (k := fun _ => some 0) (r := 0) (rdL_k (hkz hk0) (by decide)) (fun u hu _ => ?_)
    obtain rfl : u = jX v := by have h9 := hkz hk0; omega
    refine lv_iload hx hb dLW_law_576 (lv_at hl 0 rfl) ?_
    refine lx_i2l hx hb dLW_law_578 ?_
    refine lx_lcmp hx hb dLW_law_579 ?_
    rw [jC_self]
    refine lx_if_eq (X := some 0) (Y := none) (r := 0) (tgt := 585) hx hb dLW_law_580 (by decide) (by rw [(iEq_iff 0 0).mpr rfl]; rfl) (fun _ => ?_) (fun h => by cases h)
    refine lv_goto (tgt := 644) hx hb dLW_law_585 (by decide) ?_
    exact kk _ _ _ _ _ _ _ _ hR2 (lv_sub hl [2, 3, 4, 5, 6] rfl) (sw_P hP) (sw_D hD) hS (by have := r1.2.1; have := r2.2.1; have := r3.2.1; omega) (by have := r1.2.2.1; have := r2.2.2.1; have := r3.2.2.1; omega)
set_option maxHeartbeats 2000000 in
theorem lw_flips {p : Program} {l : Launch} {e : Env} {s : State} {m : MethodId} {args : Array Value} {below : List Frame} {meth : Method} {c : Code} {Q : State → Prop} {A : Nat → Prop} {dC : Nat → ClassId} {dI : Nat → Nat → Nat} {K : Nat → ClassId} {Rel : va_W → va_W → Prop} {b q_x q_m q_o L i C S z cells slots : Nat} {f_o : Nat → Int64} {xs : Nat → Int32} {cs ms : va_W} {H : Heap} {locs : List Loc} {ls : Array Slot}
    (hx : p.tables.exec = Jvm.exec) (hb : c.code = cLW_law) (hml : c.maxLocals = 7) (hown : s.vm.findClass RLW = some m.cls) (hws : ∀ w ∈ WS, w.before args s = true) (hK : va_K (dC, dI) vwCl (tyK K) s) (hE : lE s s) (hX : va_X b L xs s s.heap) (hL : L ≤ 1536) (hAb : ¬ A b) (hA : ∀ q : Nat, s.heap.size ≤ q → A q) (hAq : ∀ q : Nat, A q → s.heap.size ≤ q)
    (hd : ∀ c' m', Rel c' m' → hdOk q_x q_m c' m') (hi : i + 2 < L) (hR : Rel cs ms) (hl : lv_has ls 7 [(0, .ref b), (1, .ref q_x), (2, .ref q_m), (3, .ref q_o), (4, .int (nI i))]) (hP : va_P (dC, dI) vwCl (ms ++ (wLArr K 1 q_o f_o z ++ cs)) H) (hD : va_D A (ms ++ (wLArr K 1 q_o f_o z ++ cs))) (hS : va_S A s.heap H locs)
    (hC : cells + 30 ≤ C) (hS2 : slots + 3300 ≤ S) (hC2 : C ≤ 620493) (hS3 : S ≤ 7234624) (kk : lwK p l e s m args below meth c Q A (dC, dI) K Rel b q_x q_m q_o f_o i C S 644) (hst : stA s l (dC, dI) K q_x q_m Rel yLW_flips wc_LW_flips yMO_flips wc_MO_flips [.int (nI (xn (xs (i + 1))))] cs ms) : W p l e room_1 s m args below meth c H locs cells slots Q (F0 m 588 ls []) := by
  have hH : ∀ {H : Heap} {locs : List Loc}, va_S A s.heap H locs → ∀ q : Nat, q < s.heap.size → H[q]? = s.heap[q]? := fun hS q hq => hS.2.1 q hq (fun h => absurd (hAq q h) (by omega))
  have hx0 := (hd _ _ hR).1
  obtain ⟨F, G, rH, rM, k, v, r1, r2, hk3, hF1, hG1, hFG⟩ := hst q_o f_o z
  have c1 := r1.2.1
  have c2 := r1.2.2.1
  have c3 := r2.2.1
  have c4 := r2.2.2.1
  refine lv_aload_n hx hb dLW_law_588 rfl (lv_at hl 1 rfl) ?_
  refine lv_aload_n hx hb dLW_law_589 rfl (lv_at hl 0 rfl) ?_
  refine lv_iload hx hb dLW_law_590 (lv_at hl 4 rfl) ?_
  refine lv_iconst (v := nI 1) hx hb dLW_law_592 (by decide +kernel) ?_
  refine lx_iadd hx hb dLW_law_593 ?_
  rw [show iA i 1 = i + 1 from by rw [iA_eq, Nat.mod_eq_of_lt (by omega)]]
  refine lw_read hx hb hX hAb hS (by omega) (by omega) dLW_law_594 ?_
  refine lv_aload_n hx hb dLW_law_595 rfl (lv_at hl 3 rfl) ?_
  refine cr_call (w0 := ms) (cs := wLArr K 1 q_o f_o z ++ cs) (va_runSW (As := [.ref q_x, .int (nI (xn (xs (i + 1)))), .ref q_o]) (rest := []) ⟨hx, hb, hml, hown, hws⟩ (hF1 _) ⟨by have h9 := r1.1; show _ + 1 ≤ 10; omega, by have h9 := r1.2.2.2; show 8 + (4 + 11) + _ ≤ 360; omega⟩ (pay_in hws (WS_gd kw_LW_flips)) List.mem_cons_self (hws _ kz_LW) ⟨by decide +kernel, by decide +kernel⟩ pl_LW_flips (hws _ km_LW_100) (hws _ ks_LW_flips) ⟨le_blind _ _ _, le_pre hP hD hK hE (hH hS) _⟩ rfl rfl hl.1 rfl (lv_room (Nat.le_of_ble_eq_true rfl)) dLW_law_596 ⟨by have h9 := r1.2.1; show _ ≤ 620493; omega, by have h9 := r1.2.2.1; show _ ≤ 7234624; omega⟩) hP hD hS hA (fun rv ws H locs hF hP hD hS => ?_)
  obtain ⟨z2, w, rfl, rfl, hFw, hkz⟩ := hF
  refine lv_istore hx hb dLW_law_599 hl (by decide) rfl (fun ls hl => ?_)
  have hP := sw_P hP
  have hD := sw_D hD
  refine lv_aload_n hx hb dLW_law_601 rfl (lv_at hl 3 rfl) ?_
  refine lv_aload_n hx hb dLW_law_602 rfl (lv_at hl 1 rfl) ?_
  refine lv_iload hx hb dLW_law_603 (lv_at hl 5 rfl) ?_
  refine lv_iconst (v := nI 1) hx hb dLW_law_605 (by decide +kernel) ?_
  refine lx_iadd hx hb dLW_law_606 ?_
  rw [show iA i 1 = i + 1 from by rw [iA_eq, Nat.mod_eq_of_lt (by omega)]]
  refine lw_read hx hb hX hAb hS (by omega) (by omega) dLW_law_607 ?_
  obtain ⟨vm, hm0⟩ := (hd _ _ hR).2
  refine cr_call (w0 := wLArr K 1 q_o f_o _ ++ _) (cs := _) (va_runV (As := [.int (nI (xn (xs (i + 1))))]) (rest := []) ⟨hx, hb, hml, hown, hws⟩ (hG1 _) ⟨cb_MO_flips hws _ (hws _ km_LW_102) ⟨by have h9 := r2.1; show _ + 1 ≤ 10; omega, by have h9 := r2.2.2.2; show 8 + (6 + 11) + _ ≤ 360; omega⟩, hws _ ki_MO_flips, hws _ ke_MO_MO_flips_MO_flips⟩ ⟨le_blind _ _ _, va_recv (ci := 10) (q0 := 0) (q := (RMO, TMO, 15)) hK (app_P.mp hP).2 rfl hm0, le_pre hP hD hK hE (hH hS) _⟩ rfl rfl hl.1 rfl (lv_room (Nat.le_of_ble_eq_true rfl)) dLW_law_608 ⟨by have h9 := r2.2.1; show _ ≤ 620493; omega, by have h9 := r2.2.2.1; show _ ≤ 7234624; omega⟩) hP hD hS hA (fun rv ws H locs hF hP hD hS => ?_)
  obtain ⟨rfl, hGw⟩ := hF
  obtain ⟨hR2, rT, r3, hT1⟩ := hFG _ _ hFw hGw
  have c5 := r3.2.1
  have c6 := r3.2.2.1
  obtain ⟨vm2, hm0⟩ := (hd _ _ hR2).2
  refine lv_istore hx hb dLW_law_611 hl (by decide) rfl (fun ls hl => ?_)
  refine lv_aload_n hx hb dLW_law_613 rfl (lv_at hl 4 rfl) ?_
  refine cr_call (w0 := wLArr K 1 q_o f_o _ ++ _) (cs := _) (va_runV (As := []) (rest := []) ⟨hx, hb, hml, hown, hws⟩ (hT1 _) ⟨cb_MO_thrown hws _ (hws _ km_LW_56) ⟨by have h9 := r3.1; show _ + 1 ≤ 10; omega, by have h9 := r3.2.2.2; show 8 + (1 + 11) + _ ≤ 360; omega⟩, hws _ ki_MO_thrown, hws _ ke_MO_MO_thrown_MO_thrown⟩ ⟨le_blind _ _ _, va_recv (ci := 10) (q0 := 0) (q := (RMO, TMO, 15)) hK (app_P.mp hP).2 rfl hm0, le_pre hP hD hK hE (hH hS) _⟩ rfl rfl hl.1 rfl (lv_room (Nat.le_of_ble_eq_true rfl)) dLW_law_614 ⟨by have h9 := r3.2.1; show _ ≤ 620493; omega, by have h9 := r3.2.2.1; show _ ≤ 7234624; omega⟩) hP hD hS hA (fun rv ws H locs hF hP hD hS => ?_)
  obtain ⟨rfl, hw3⟩ := hF
  rw [hw3] at hP hD
  refine lv_iload hx hb dLW_law_617 (lv_at hl 1 rfl) ?_
  refine lx_icmp_eq (X := some 0) (Y := none) (r := 0) (tgt := 624) hx hb dLW_law_619 (by decide) (by rw [(iEq_iff k k).mpr rfl]; rfl) (fun _ => ?_) (fun h => by cases h)
  refine lv_iload hx hb dLW_law_624 (lv_at hl 1 rfl) ?_
  refine lx_if_ne (X := bif iEq k 0 then some 0 else none) (Y := bif iEq k 0 then none else some 0) (r := 0) (tgt := 641) hx hb dLW_law_626 (by decide) (by cases iEq k 0 <;> rfl) (fun h0 => ?_) (fun h0 => ?_)
  · refine lv_goto (tgt := 644) hx hb dLW_law_641 (by decide) ?_
    exact kk _ _ _ _ _ _ _ _ hR2 (lv_sub hl [2, 3, 4, 5, 6] rfl) (sw_P hP) (sw_D hD) hS (by have := r1.2.1; have := r2.2.1; have := r3.2.1; omega) (by have := r1.2.2.1; have := r2.2.2.1; have := r3.2.2.1; omega)
  · have hk0 : k = 0 := by
      cases h9 : iEq k 0 with
      | false => rw [h9] at h0; cases h0
      | true =>
        rw [iEq_eq] at h9
        have h10 := Nat.eq_of_beq_eq_true h9
        omega
    refine lv_aload_n hx hb dLW_law_629 rfl (lv_at hl 5 rfl) ?_
    refine lv_iconst (v := nI 0) hx hb dLW_law_630 (by decide +kernel) ?_
    refine lx_lald hx hb hK (app_P.mp (app_P.mp hP).1).1 0 2 rfl rfl (by decide) dLW_law_631 (k := fun _ => some 0) (r := 0) (rdL_k (hkz hk0) (by decide)) (fun u hu _ => ?_)
    obtain rfl : u = jX v := by have h9 := hkz hk0; omega
    refine lv_iload hx hb dLW_law_632 (lv_at hl 0 rfl) ?_
    refine lx_i2l hx hb dLW_law_634 ?_
    refine lx_lcmp hx hb dLW_law_635 ?_
    rw [jC_self]
    refine lx_if_eq (X := some 0) (Y := none) (r := 0) (tgt := 641) hx hb dLW_law_636 (by decide) (by rw [(iEq_iff 0 0).mpr rfl]; rfl) (fun _ => ?_) (fun h => by cases h)
    refine lv_goto (tgt := 644) hx hb dLW_law_641 (by decide) ?_
    exact kk _ _ _ _ _ _ _ _ hR2 (lv_sub hl [2, 3, 4, 5, 6] rfl) (sw_P hP) (sw_D hD) hS (by have := r1.2.1; have := r2.2.1; have := r3.2.1; omega) (by have := r1.2.2.1; have := r2.2.2.1; have := r3.2.2.1; omega)
