/-! the law's loop: as long as the two sides stay alike it answers 1 -/
def Sim (s0 : State) (l : Launch) (D : va_G) (K : Nat → ClassId) (q_x q_m : Nat) (Rel : va_W → va_W → Prop) : Prop :=
  ∀ cs ms : va_W, Rel cs ms → hdOk q_x q_m cs ms ∧ ∀ x0 x1 : Nat, x0 < 4294967296 → x1 < 4294967296 → stA s0 l D K q_x q_m Rel yLW_size wc_LW_size yMO_size wc_MO_size [.int (nI x0)] cs ms ∧ stC s0 l D K q_x q_m Rel yCW_rank wc_CW_rank yMO_rank wc_MO_rank cs ms ∧ stB s0 l D K q_x q_m Rel yLW_unrank wc_LW_unrank yMO_unrank wc_MO_unrank [.int (nI x0)] cs ms ∧ stA s0 l D K q_x q_m Rel yLW_rows wc_LW_rows yMO_rows wc_MO_rows [.int (nI x0), .int (nI x1)] cs ms ∧ stB s0 l D K q_x q_m Rel yLW_put wc_LW_put yMO_put wc_MO_put [.int (nI x0), .int (nI x1)] cs ms ∧ stA s0 l D K q_x q_m Rel yLW_note wc_LW_note yMO_note wc_MO_note [.int (nI x0)] cs ms ∧ stA s0 l D K q_x q_m Rel yLW_show wc_LW_show yMO_show wc_MO_show [.int (nI x0)] cs ms ∧ stA s0 l D K q_x q_m Rel yLW_take wc_LW_take yMO_take wc_MO_take [.int (nI x0)] cs ms ∧ stC s0 l D K q_x q_m Rel yCW_mirror wc_CW_mirror yMO_mirror wc_MO_mirror cs ms ∧ stC s0 l D K q_x q_m Rel yCW_turn wc_CW_turn yMO_turn wc_MO_turn cs ms ∧ stC s0 l D K q_x q_m Rel yCW_complement wc_CW_complement yMO_complement wc_MO_complement cs ms ∧ stA s0 l D K q_x q_m Rel yLW_flip wc_LW_flip yMO_flip wc_MO_flip [.int (nI x0)] cs ms ∧ stA s0 l D K q_x q_m Rel yLW_flips wc_LW_flips yMO_flips wc_MO_flips [.int (nI x0)] cs ms
theorem xn_lt (x : Int32) : xn x < 4294967296 := x.toBitVec.isLt
theorem lw_cond {L i : Nat} (hL : L ≤ 1536) (hi : i ≤ 2000) : iLt (iS L 3) i = decide (L < i + 3) := by
  rw [iLt_eq, iS_eq]
  by_cases h : L < i + 3
  · rw [decide_eq_true h]
    exact Nat.blt_eq.mpr (by omega)
  · rw [decide_eq_false h]
    cases hb : Nat.blt ((((L + (4294967296 - 3 % 4294967296)) % 4294967296) + 2147483648) % 4294967296) ((i + 2147483648) % 4294967296) with
    | false => rfl
    | true =>
      have := Nat.blt_eq.mp hb
      omega
set_option maxHeartbeats 4000000 in
set_option maxRecDepth 100000 in
theorem lw_head {p : Program} {l : Launch} {e : Env} {s : State} {m : MethodId} {args : Array Value} {below : List Frame} {meth : Method} {c : Code} {Q : State → Prop} {A : Nat → Prop} {dC : Nat → ClassId} {dI : Nat → Nat → Nat} {K : Nat → ClassId} {Rel : va_W → va_W → Prop} {b q_x q_m q_o L : Nat} {f_o : Nat → Int64} {xs : Nat → Int32}
    (hx : p.tables.exec = Jvm.exec) (hb : c.code = cLW_law) (hml : c.maxLocals = 7) (hown : s.vm.findClass RLW = some m.cls) (hws : ∀ w ∈ WS, w.before args s = true) (hK : va_K (dC, dI) vwCl (tyK K) s) (hE : lE s s) (hX : va_X b L xs s s.heap) (hL : L ≤ 1536) (hAb : ¬ A b) (hA : ∀ q : Nat, s.heap.size ≤ q → A q) (hAq : ∀ q : Nat, A q → s.heap.size ≤ q)
     (hr : meth.sig.returnType = ret) (hlocks : meth.locks = false) (hargs : args = #[Value.ref b]) (hQ : Q = lw_Z below #[Value.ref b] s) (hsim : Sim s l (dC, dI) K q_x q_m Rel) :
    ∀ (n i : Nat) (cs ms : va_W) (z : Nat) (H : Heap) (locs : List Loc) (ls : Array Slot) (cells slots : Nat), L < i + 3 * n + 3 → i ≤ 1536 → Rel cs ms → lv_has ls 7 [(0, .ref b), (1, .ref q_x), (2, .ref q_m), (3, .ref q_o), (4, .int (nI i))] → va_P (dC, dI) vwCl (ms ++ (wLArr K 1 q_o f_o z ++ cs)) H → va_D A (ms ++ (wLArr K 1 q_o f_o z ++ cs)) → va_S A s.heap H locs → cells + 30 * n ≤ 620493 → slots + 3300 * n ≤ 7234624 →
      W p l e room_1 s m args below meth c H locs cells slots Q (F0 m 23 ls []) := by
  have hd : ∀ c' m', Rel c' m' → hdOk q_x q_m c' m' := fun c' m' h => (hsim c' m' h).1
  have hend : ∀ (cs ms : va_W) (z : Nat) (H : Heap) (locs : List Loc) (ls : Array Slot) (cells slots : Nat), va_S A s.heap H locs → cells ≤ 620493 → slots ≤ 7234624 → W p l e room_1 s m args below meth c H locs cells slots Q (F0 m 650 ls []) := by
    intro cs ms z H locs ls cells slots hS h1 h2
    refine lv_iconst (v := 1) hx hb dLW_law_650 (by decide +kernel) ?_
    subst hargs
    subst hQ
    intro T hT X
    exact lw_ret hx hb hr hlocks dLW_law_651 T hT { X with same := X.same.weaken (fun y hy hlt => absurd hlt (Nat.not_lt.mpr (hAq _ (hS.2.2 y hy)))) h1 h2 }
  intro n
  induction n with
  | zero =>
    intro i cs ms z H locs ls cells slots hn hi hR hl hP hD hS hC hS2
    refine lv_iload hx hb dLW_law_23 (lv_at hl 4 rfl) ?_
    refine lv_aload_n hx hb dLW_law_25 rfl (lv_at hl 0 rfl) ?_
    refine lw_len hx hb hX hAb hS dLW_law_26 ?_
    refine lv_iconst (v := nI 3) hx hb dLW_law_27 (by decide +kernel) ?_
    refine lx_isub hx hb dLW_law_28 ?_
    refine lx_icmp_gt (X := bif iLt (iS L 3) i then some 0 else none) (Y := bif iLt (iS L 3) i then none else some 0) (r := 0) (tgt := 650) hx hb dLW_law_29 (by decide) (by cases iLt (iS L 3) i <;> rfl) (fun _ => hend cs ms z _ _ _ _ _ hS (by omega) (by omega)) (fun h0 => ?_)
    have hi2 : i + 2 < L := by
      rw [lw_cond hL (by omega)] at h0
      by_cases h : L < i + 3
      · rw [decide_eq_true h] at h0; cases h0
      · omega
    omega
  | succ n ih =>
    intro i cs ms z H locs ls cells slots hn hi hR hl hP hD hS hC hS2
    refine lv_iload hx hb dLW_law_23 (lv_at hl 4 rfl) ?_
    refine lv_aload_n hx hb dLW_law_25 rfl (lv_at hl 0 rfl) ?_
    refine lw_len hx hb hX hAb hS dLW_law_26 ?_
    refine lv_iconst (v := nI 3) hx hb dLW_law_27 (by decide +kernel) ?_
    refine lx_isub hx hb dLW_law_28 ?_
    refine lx_icmp_gt (X := bif iLt (iS L 3) i then some 0 else none) (Y := bif iLt (iS L 3) i then none else some 0) (r := 0) (tgt := 650) hx hb dLW_law_29 (by decide) (by cases iLt (iS L 3) i <;> rfl) (fun _ => hend cs ms z _ _ _ _ _ hS (by omega) (by omega)) (fun h0 => ?_)
    have hi2 : i + 2 < L := by
      rw [lw_cond hL (by omega)] at h0
      by_cases h : L < i + 3
      · rw [decide_eq_true h] at h0; cases h0
      · omega
    have kk : lwK p l e s m args below meth c Q A (dC, dI) K Rel b q_x q_m q_o f_o i (cells + 30) (slots + 3300) 644 := by
      intro cs ms z H locs ls cells slots hR hl hP hD hS h1 h2
      refine lx_iinc (k := 4) (d := 3) hx hb dLW_law_644 hl rfl (by decide +kernel) (by decide) rfl (fun ls hl => ?_)
      rw [show iA i 3 = i + 3 from by rw [iA_eq, Nat.mod_eq_of_lt (by omega)]] at hl
      refine lv_goto (tgt := 23) hx hb dLW_law_647 (by decide) ?_
      exact ih (i + 3) cs ms z H locs ls cells slots (by omega) (by omega) hR (lv_sub hl [1, 2, 3, 4, 0] rfl) hP hD hS (by omega) (by omega)
    have k1 : cells + 30 ≤ cells + 30 := by omega
    have k2 : slots + 3300 ≤ slots + 3300 := by omega
    have k3 : cells + 30 ≤ 620493 := by omega
    have k4 : slots + 3300 ≤ 7234624 := by omega
    have hops := (hsim cs ms hR).2 (xn (xs (i + 1))) (xn (xs (i + 2))) (xn_lt _) (xn_lt _)
    refine lv_aload_n hx hb dLW_law_32 rfl (lv_at hl 0 rfl) ?_
    refine lv_iload hx hb dLW_law_33 (lv_at hl 4 rfl) ?_
    refine lw_read hx hb hX hAb hS (by omega) (by omega) dLW_law_35 ?_
    refine lv_bipush (v := nI 15) hx hb dLW_law_36 (by decide +kernel) ?_
    refine lv_iand hx hb dLW_law_38 ?_
    generalize (nI (xn (xs i)) &&& nI 15) = sw
    by_cases h0 : sw = nI 0
    · rw [h0]
      refine lv_tableIn (off := 65) (tgt := 104) hx hb dLW_law_39 (by decide) (by decide) (by decide +kernel) (by decide) ?_
      exact lw_size (C := cells + 30) (S := slots + 3300) hx hb hml hown hws hK hE hX hL hAb hA hAq hd hi2 hR hl hP hD hS k1 k2 k3 k4 kk hops.1
    by_cases h1 : sw = nI 1
    · rw [h1]
      refine lv_tableIn (off := 121) (tgt := 160) hx hb dLW_law_39 (by decide) (by decide) (by decide +kernel) (by decide) ?_
      exact lw_rank (C := cells + 30) (S := slots + 3300) hx hb hml hown hws hK hE hX hL hAb hA hAq hd hi2 hR hl hP hD hS k1 k2 k3 k4 kk hops.2.1
    by_cases h2 : sw = nI 2
    · rw [h2]
      refine lv_tableIn (off := 134) (tgt := 173) hx hb dLW_law_39 (by decide) (by decide) (by decide +kernel) (by decide) ?_
      exact lw_unrank (C := cells + 30) (S := slots + 3300) hx hb hml hown hws hK hE hX hL hAb hA hAq hd hi2 hR hl hP hD hS k1 k2 k3 k4 kk hops.2.2.1
    by_cases h3 : sw = nI 3
    · rw [h3]
      refine lv_tableIn (off := 170) (tgt := 209) hx hb dLW_law_39 (by decide) (by decide) (by decide +kernel) (by decide) ?_
      exact lw_rows (C := cells + 30) (S := slots + 3300) hx hb hml hown hws hK hE hX hL hAb hA hAq hd hi2 hR hl hP hD hS k1 k2 k3 k4 kk hops.2.2.2.1
    by_cases h4 : sw = nI 4
    · rw [h4]
      refine lv_tableIn (off := 238) (tgt := 277) hx hb dLW_law_39 (by decide) (by decide) (by decide +kernel) (by decide) ?_
      exact lw_put (C := cells + 30) (S := slots + 3300) hx hb hml hown hws hK hE hX hL hAb hA hAq hd hi2 hR hl hP hD hS k1 k2 k3 k4 kk hops.2.2.2.2.1
    by_cases h5 : sw = nI 5
    · rw [h5]
      refine lv_tableIn (off := 286) (tgt := 325) hx hb dLW_law_39 (by decide) (by decide) (by decide +kernel) (by decide) ?_
      exact lw_note (C := cells + 30) (S := slots + 3300) hx hb hml hown hws hK hE hX hL hAb hA hAq hd hi2 hR hl hP hD hS k1 k2 k3 k4 kk hops.2.2.2.2.2.1
    by_cases h6 : sw = nI 6
    · rw [h6]
      refine lv_tableIn (off := 342) (tgt := 381) hx hb dLW_law_39 (by decide) (by decide) (by decide +kernel) (by decide) ?_
      exact lw_show (C := cells + 30) (S := slots + 3300) hx hb hml hown hws hK hE hX hL hAb hA hAq hd hi2 hR hl hP hD hS k1 k2 k3 k4 kk hops.2.2.2.2.2.2.1
    by_cases h7 : sw = nI 7
    · rw [h7]
      refine lv_tableIn (off := 398) (tgt := 437) hx hb dLW_law_39 (by decide) (by decide) (by decide +kernel) (by decide) ?_
      exact lw_take (C := cells + 30) (S := slots + 3300) hx hb hml hown hws hK hE hX hL hAb hA hAq hd hi2 hR hl hP hD hS k1 k2 k3 k4 kk hops.2.2.2.2.2.2.2.1
    by_cases h8 : sw = nI 8
    · rw [h8]
      refine lv_tableIn (off := 454) (tgt := 493) hx hb dLW_law_39 (by decide) (by decide) (by decide +kernel) (by decide) ?_
      exact lw_mirror (C := cells + 30) (S := slots + 3300) hx hb hml hown hws hK hE hX hL hAb hA hAq hd hi2 hR hl hP hD hS k1 k2 k3 k4 kk hops.2.2.2.2.2.2.2.2.1
    by_cases h9 : sw = nI 9
    · rw [h9]
      refine lv_tableIn (off := 467) (tgt := 506) hx hb dLW_law_39 (by decide) (by decide) (by decide +kernel) (by decide) ?_
      exact lw_turn (C := cells + 30) (S := slots + 3300) hx hb hml hown hws hK hE hX hL hAb hA hAq hd hi2 hR hl hP hD hS k1 k2 k3 k4 kk hops.2.2.2.2.2.2.2.2.2.1
    by_cases h10 : sw = nI 10
    · rw [h10]
      refine lv_tableIn (off := 480) (tgt := 519) hx hb dLW_law_39 (by decide) (by decide) (by decide +kernel) (by decide) ?_
      exact lw_complement (C := cells + 30) (S := slots + 3300) hx hb hml hown hws hK hE hX hL hAb hA hAq hd hi2 hR hl hP hD hS k1 k2 k3 k4 kk hops.2.2.2.2.2.2.2.2.2.2.1
    by_cases h11 : sw = nI 11
    · rw [h11]
      refine lv_tableIn (off := 493) (tgt := 532) hx hb dLW_law_39 (by decide) (by decide) (by decide +kernel) (by decide) ?_
      exact lw_flip (C := cells + 30) (S := slots + 3300) hx hb hml hown hws hK hE hX hL hAb hA hAq hd hi2 hR hl hP hD hS k1 k2 k3 k4 kk hops.2.2.2.2.2.2.2.2.2.2.2.1
    by_cases h12 : sw = nI 12
    · rw [h12]
      refine lv_tableIn (off := 549) (tgt := 588) hx hb dLW_law_39 (by decide) (by decide) (by decide +kernel) (by decide) ?_
      exact lw_flips (C := cells + 30) (S := slots + 3300) hx hb hml hown hws hK hE hX hL hAb hA hAq hd hi2 hR hl hP hD hS k1 k2 k3 k4 kk hops.2.2.2.2.2.2.2.2.2.2.2.2
    have g0 := lv_neT (a := 0) h0 (by decide)
    have g1 := lv_neT (a := 1) h1 (by decide)
    have g2 := lv_neT (a := 2) h2 (by decide)
    have g3 := lv_neT (a := 3) h3 (by decide)
    have g4 := lv_neT (a := 4) h4 (by decide)
    have g5 := lv_neT (a := 5) h5 (by decide)
    have g6 := lv_neT (a := 6) h6 (by decide)
    have g7 := lv_neT (a := 7) h7 (by decide)
    have g8 := lv_neT (a := 8) h8 (by decide)
    have g9 := lv_neT (a := 9) h9 (by decide)
    have g10 := lv_neT (a := 10) h10 (by decide)
    have g11 := lv_neT (a := 11) h11 (by decide)
    have g12 := lv_neT (a := 12) h12 (by decide)
    refine lv_tableOut (tgt := 644) hx hb dLW_law_39 (by omega) (by decide) ?_
    exact kk cs ms z H locs ls cells slots hR hl hP hD hS (by omega) (by omega)
