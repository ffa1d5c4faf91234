/-! mirror -/
theorem rank_goW {n k W : Nat} (h1 : 1 ≤ n) (h2 : n ≤ 9) (hk : k < cat n) (hW : ∀ i, i < 2 * n → ag W i = ag (wB n k) i) : ∀ d fuel j, j + d = k → d < fuel → fr_MO_rankOf n W 0 fuel j (wB n j) = some (k, wB n k) := by
  have hc := cat_le h1 h2
  have hWk : kno W (2 * n) := fun i hi => by
    rw [hW i hi]
    exact w_kno h1 h2 hk i hi
  intro d
  induction d with
  | zero =>
    intro fuel j hj hf
    obtain ⟨m, rfl⟩ : ∃ m, fuel = m + 1 := ⟨fuel - 1, by omega⟩
    obtain rfl : j = k := by omega
    rw [frs_MO_rankOf_10]
    unfold b_MO_rankOf_10
    rw [iM2 h2, same_tw_eq, gs_t (by omega) (by omega) (by omega) (w_kno h1 h2 hk) hWk (fun i hi => (hW i hi).symm)]
    simp only [ob_s]
    rw [iEq_f (by omega) (by omega) (by omega)]
  | succ d ih =>
    intro fuel j hj hf
    obtain ⟨m, rfl⟩ : ∃ m, fuel = m + 1 := ⟨fuel - 1, by omega⟩
    have hjc : j < cat n := by omega
    rw [frs_MO_rankOf_10]
    unfold b_MO_rankOf_10
    rw [iM2 h2, same_tw_eq, gs_f (by omega) (by omega) (by omega) (w_kno h1 h2 hjc) hWk (by
      obtain ⟨i, q1, q2⟩ := w_ne h1 h2 hjc hk (by omega)
      exact ⟨i, q1, by rw [hW i q1]; exact q2⟩)]
    simp only [ob_s]
    rw [iEq_t, (w_all h1 h2 hjc).2.2.1 (by omega)]
    simp only [ob_s]
    rw [iEq_f (by omega) (by omega) (by omega), fz_eq, fz_eq, iA_n (by omega)]
    exact ih m (j + 1) (by omega) (by omega)
theorem mo_rankW {n k W : Nat} (h1 : 1 ≤ n) (h2 : n ≤ 9) (hk : k < cat n) (hW : ∀ i, i < 2 * n → ag W i = ag (wB n k) i) : f_MO_rankOf n W 0 = some (k, wB n k) := by
  have hc := cat_le h1 h2
  unfold f_MO_rankOf e_MO_rankOf
  rw [(w_first h1 h2).1]
  show fr_MO_rankOf n W 0 1000000 0 (wB n 0) = _
  exact rank_goW h1 h2 hk hW k 1000000 0 (by omega) (by omega)
noncomputable def ckM (n k : Nat) : Bool := oB (f_RK_seek n k 0 0 0) (fun r => fz r.1 (fun B => oB (f_CW_mirror B n 0 0 0) (fun q => fz q.1 (fun k2 => bnd (Nat.blt k2 (cat n)) (bnd (Nat.beq q.2.2.2 n) (oB (f_RK_seek n k2 0 0 0) (fun r2 => fz r2.1 (fun B2 => bnd (Nat.beq q.2.1 B2) (bnd (Nat.beq q.2.2.1 r2.2.1) (alB (fun i => Nat.beq (ag B2 i) (Nat.sub 3 (ag B (Nat.sub (Nat.sub (Nat.mul 2 n) 1) i)))) 0 (Nat.mul 2 n)))))))))))
def AllM : Prop := ∀ n k : Nat, 1 ≤ n → n ≤ 9 → k < cat n → ckM n k = true
theorem mir_go {n B : Nat} (h1 : 1 ≤ n) (h2 : n ≤ 9) (hB : ∀ i, i < 2 * n → ag B i = 1 ∨ ag B i = 2) : ∀ d fuel l1 W, l1 + d = 2 * n → d < fuel → (∀ i, i < l1 → ag W i = 3 - ag B (2 * n - 1 - i)) → ∃ W2, (∀ i, i < 2 * n → ag W2 i = 3 - ag B (2 * n - 1 - i)) ∧ ∀ c w t wa, fr_MO_mirror c n w t wa fuel l1 0 B 0 W = Option.bind (f_MO_copy_wanted_word (2 * n) B W2) (fun q1 => Option.bind (f_MO_rankOf n q1 0) (fun q2 => some (q2.1, 0, q1, q2.2, W2))) := by
  intro d
  induction d with
  | zero =>
    intro fuel l1 W hl hf hW
    obtain ⟨m, rfl⟩ : ∃ m, fuel = m + 1 := ⟨fuel - 1, by omega⟩
    refine ⟨W, fun i hi => hW i (by omega), fun c w t wa => ?_⟩
    rw [frs_MO_mirror_7]
    unfold b_MO_mirror_7
    rw [iM2 h2, iLt_f (by omega) (by omega) (by omega)]
  | succ d ih =>
    intro fuel l1 W hl hf hW
    obtain ⟨m, rfl⟩ : ∃ m, fuel = m + 1 := ⟨fuel - 1, by omega⟩
    obtain ⟨v, hv, hv2⟩ : ∃ v, v < 2 ∧ ag B (2 * n - 1 - l1) = v + 1 := by
      rcases hB (2 * n - 1 - l1) (by omega) with h | h
      · exact ⟨0, by omega, h⟩
      · exact ⟨1, by omega, h⟩
    obtain ⟨W2, g1, g2⟩ := ih m (l1 + 1) (aw W l1 (1 - v)) (by omega) (by omega) (fun i hi => by
      rw [ag_aw]
      by_cases h : l1 = i
      · subst h
        rw [if_pos rfl, Nat.mod_eq_of_lt (by omega), hv2]
        omega
      · rw [if_neg h]
        exact hW i (by omega))
    refine ⟨W2, g1, fun c w t wa => ?_⟩
    rw [frs_MO_mirror_7]
    unfold b_MO_mirror_7
    rw [iM2 h2, iLt_t (by omega) (by omega) (by omega), iS_n (a := 2 * n) (b := 1) (by omega) (by omega), iS_n (a := 2 * n - 1) (b := l1) (by omega) (by omega), rd_k hv2 (by omega), bl_t (by omega), fz_eq, fz_eq, iA_n (by omega), iS_n (by omega) (by omega)]
    exact g2 c w t wa
theorem mir_fr (B n a b p k : Nat) : fr_CW_mirror B n a b p k = fr_CW_mirror B n a b 0 k := rfl
theorem mir_pb (B n a b p : Nat) : f_CW_mirror B n a b p = f_CW_mirror B n a b 0 := by
  unfold f_CW_mirror e_CW_mirror f_WD_begin
  rw [mir_fr]
theorem facts_mirror (hM : AllM) : F_mirror wB wC cat := by
  intro n k h1 h2 hk
  have hc := hM n k h1 h2 hk
  unfold ckM at hc
  rw [(w_all h1 h2 hk).1] at hc
  obtain ⟨r, e, hc⟩ := oB_t hc
  have e := Option.some.inj e
  subst e
  rw [fz_eq] at hc
  dsimp only at hc
  obtain ⟨q, e, hc⟩ := oB_t hc
  rw [fz_eq] at hc
  obtain ⟨c1, hc⟩ := bnd_t hc
  obtain ⟨c2, hc⟩ := bnd_t hc
  have c1 : q.1 < cat n := Nat.blt_eq.mp c1
  rw [(w_all h1 h2 c1).1] at hc
  obtain ⟨r2, e2, hc⟩ := oB_t hc
  have e2 := Option.some.inj e2
  subst e2
  rw [fz_eq] at hc
  dsimp only at hc
  obtain ⟨c3, hc⟩ := bnd_t hc
  obtain ⟨c4, c5⟩ := bnd_t hc
  have hb : ∀ i, i < 2 * n → ag (wB n q.1) i = 3 - ag (wB n k) (2 * n - 1 - i) := fun i hi => Nat.eq_of_beq_eq_true ((upTo.z _).ext (a := 0) (m := Nat.mul 2 n) c5 i (by show i < 0 + 2 * n; omega))
  obtain ⟨W2, g1, g2⟩ := mir_go h1 h2 (w_bits h1 h2 hk).2 (2 * n) 1000000 0 0 (by omega) (by omega) (fun i hi => by omega)
  have hWk : kno W2 (2 * n) := fun i hi => by
    rw [g1 i hi, ← hb i hi]
    exact w_kno h1 h2 c1 i hi
  obtain ⟨O, hO, hi⟩ := gc_t (na := 20) (nb := 18) (A := W2) (m := 2 * n) (by omega) (by omega) (by omega) hWk (wB n k)
  have hOb : ∀ i, i < 2 * n → ag O i = ag (wB n q.1) i := fun i h => by
    rw [hi i, if_pos h, g1 i h, ← hb i h]
  refine ⟨q.1, q, (q.1, 0, O, wB n q.1, W2), c1, fun pb => by rw [mir_pb]; exact e, ?_, ?_, Nat.eq_of_beq_eq_true c2, fun c => ?_, rfl, ?_⟩
  · rw [Nat.eq_of_beq_eq_true c3]
    exact sbO_rfl _
  · rw [Nat.eq_of_beq_eq_true c4]
    exact sbO_rfl _
  · unfold f_MO_mirror e_MO_mirror
    rw [g2 c (wB n k) 0 0, copy_ww_eq, hO]
    simp only [ob_s]
    rw [mo_rankW h1 h2 c1 hOb]
    rfl
  · refine fun i h => ?_
    by_cases h9 : i < 2 * n
    · exact hOb i h9
    · exact absurd (ag_top (w_bits h1 h2 c1).1 (by omega)) h
/-! complement: the reference's loops up to its find -/
noncomputable def j_MO_cpl_63 (ih : Nat → Nat → Nat → Nat → Nat → Nat → Nat → Option Nat) (z_t_n : Nat) (l1 : Nat) (l3 : Nat) (s0 : Nat) (y_t_shown : Nat) (y_t_wanted : Nat) (y_t_mate : Nat) : Option Nat := (fz (iA l3 4294967295) (fun u14 => ih 1 l1 s0 u14 y_t_shown y_t_wanted y_t_mate))
noncomputable def j_MO_cpl_107 (ih : Nat → Nat → Nat → Nat → Nat → Nat → Nat → Option Nat) (z_t_n : Nat) (l1 : Nat) (s0 : Nat) (y_t_shown : Nat) (y_t_wanted : Nat) (y_t_mate : Nat) : Option Nat := (bif Nat.blt s0 10 then (fz (iA l1 1) (fun u16 => fz (aw y_t_mate s0 l1) (fun u17 => ih 0 u16 y_t_shown y_t_wanted u17 0 0))) else none)
noncomputable def j_MO_cpl_86 (ih : Nat → Nat → Nat → Nat → Nat → Nat → Nat → Option Nat) (z_t_n : Nat) (l1 : Nat) (s0 : Nat) (y_t_shown : Nat) (y_t_wanted : Nat) (y_t_mate : Nat) : Option Nat := (bif iEq s0 0 then (fz (iS z_t_n 1) (fun u13 => j_MO_cpl_107 ih z_t_n l1 u13 y_t_shown y_t_wanted y_t_mate)) else (fz (iS s0 1) (fun u12 => j_MO_cpl_107 ih z_t_n l1 u12 y_t_shown y_t_wanted y_t_mate)))
noncomputable def j_MO_cpl_149 (ih : Nat → Nat → Nat → Nat → Nat → Nat → Nat → Option Nat) (z_t_n : Nat) (l1 : Nat) (l3 : Nat) (s0 : Nat) (y_t_shown : Nat) (y_t_wanted : Nat) (y_t_mate : Nat) : Option Nat := (rd y_t_mate 10 l3 (fun v15 => (ih 3 l1 s0 v15 y_t_shown y_t_wanted y_t_mate)))
noncomputable def b_MO_cpl_21 (ih : Nat → Nat → Nat → Nat → Nat → Nat → Nat → Option Nat) (z_t_n : Nat) (l1 : Nat) (y_t_shown : Nat) (y_t_wanted : Nat) (y_t_mate : Nat) : Option Nat := (bif iLt l1 z_t_n then (fz (iS z_t_n 1) (fun u3 => ih 1 l1 4294967295 u3 y_t_shown y_t_wanted y_t_mate)) else (ih 2 0 y_t_shown y_t_wanted y_t_mate 0 0))
noncomputable def b_MO_cpl_38 (ih : Nat → Nat → Nat → Nat → Nat → Nat → Nat → Option Nat) (z_t_n : Nat) (l1 : Nat) (l2 : Nat) (l3 : Nat) (y_t_shown : Nat) (y_t_wanted : Nat) (y_t_mate : Nat) : Option Nat := (bif iLt l1 l3 then (rd y_t_shown 20 l3 (fun v8 => (rd y_t_shown 20 l1 (fun v9 => (bif iEq v8 v9 then (j_MO_cpl_63 ih z_t_n l1 l3 l3 y_t_shown y_t_wanted y_t_mate) else (j_MO_cpl_63 ih z_t_n l1 l3 l2 y_t_shown y_t_wanted y_t_mate)))))) else (bif iLt l2 0 then (rd y_t_shown 20 l1 (fun v6 => (fz (iS v6 1) (fun u7 => j_MO_cpl_86 ih z_t_n l1 u7 y_t_shown y_t_wanted y_t_mate)))) else (j_MO_cpl_86 ih z_t_n l1 l2 y_t_shown y_t_wanted y_t_mate)))
noncomputable def b_MO_cpl_117 (ih : Nat → Nat → Nat → Nat → Nat → Nat → Nat → Option Nat) (z_t_n : Nat) (l1 : Nat) (y_t_shown : Nat) (y_t_wanted : Nat) (y_t_mate : Nat) : Option Nat := (bif iLt l1 z_t_n then (rd y_t_mate 10 l1 (fun v5 => (ih 3 l1 l1 v5 y_t_shown y_t_wanted y_t_mate))) else some y_t_wanted)
noncomputable def b_MO_cpl_134 (ih : Nat → Nat → Nat → Nat → Nat → Nat → Nat → Option Nat) (z_t_n : Nat) (l1 : Nat) (l2 : Nat) (l3 : Nat) (y_t_shown : Nat) (y_t_wanted : Nat) (y_t_mate : Nat) : Option Nat := (bif iEq l3 l1 then (bif Nat.blt l1 20 then (fz (iA l1 1) (fun u10 => fz (aw y_t_wanted l1 (iA l2 1)) (fun u11 => ih 2 u10 y_t_shown u11 y_t_mate 0 0))) else none) else (bif iLt l3 l2 then (j_MO_cpl_149 ih z_t_n l1 l3 l3 y_t_shown y_t_wanted y_t_mate) else (j_MO_cpl_149 ih z_t_n l1 l3 l2 y_t_shown y_t_wanted y_t_mate)))
noncomputable def fr_MO_cpl (z_t_n : Nat) (k : Nat) : Nat → Nat → Nat → Nat → Nat → Nat → Nat → Option Nat := Nat.rec (motive := fun _ => Nat → Nat → Nat → Nat → Nat → Nat → Nat → Option Nat) (fun _ _ _ _ _ _ _ => none) (fun _ ih hh a0 a1 a2 a3 a4 a5 => (Nat.rec (motive := fun _ => Option Nat) (b_MO_cpl_21 ih z_t_n a0 a1 a2 a3) (fun h0 _ => (Nat.rec (motive := fun _ => Option Nat) (b_MO_cpl_38 ih z_t_n a0 a1 a2 a3 a4 a5) (fun h1 _ => (Nat.rec (motive := fun _ => Option Nat) (b_MO_cpl_117 ih z_t_n a0 a1 a2 a3) (fun h2 _ => (Nat.rec (motive := fun _ => Option Nat) (b_MO_cpl_134 ih z_t_n a0 a1 a2 a3 a4 a5) (fun h3 _ => none) h2)) h1)) h0)) hh)) k
def oleK {α β : Type} (K : α → Option β) (a : Option α) (b : Option β) : Prop := ∀ W, a = some W → b = K W
theorem oleK_nn {α β : Type} {K : α → Option β} {b : Option β} : oleK K none b := fun _ h => no_s h
theorem oleK_some {α β : Type} {K : α → Option β} (W : α) : oleK K (some W) (K W) := fun x hx => by
  rw [Option.some.inj hx]
theorem oleK_bif {α β : Type} {K : α → Option β} {c : Bool} {X Y : Option α} {X2 Y2 : Option β} (h1 : oleK K X X2) (h2 : oleK K Y Y2) : oleK K (bif c then X else Y) (bif c then X2 else Y2) := by
  cases c
  · exact h2
  · exact h1
theorem oleK_fz {α β : Type} {K : α → Option β} {x : Nat} {k : Nat → Option α} {k2 : Nat → Option β} (h : ∀ v, oleK K (k v) (k2 v)) : oleK K (fz x k) (fz x k2) := by
  rw [fz_eq, fz_eq]
  exact h x
theorem oleK_rd {α β : Type} {K : α → Option β} {O n i : Nat} {k : Nat → Option α} {k2 : Nat → Option β} (h2 : ∀ v, oleK K (k v) (k2 v)) : oleK K (rd O n i k) (rd O n i k2) := by
  intro r hr
  unfold rd at hr ⊢
  cases hb : Nat.blt i n with
  | false =>
    rw [hb] at hr
    exact no_s hr
  | true =>
    rw [hb] at hr
    cases ho : ag O i with
    | zero =>
      rw [ho] at hr
      exact no_s hr
    | succ v =>
      rw [ho] at hr
      exact h2 v r hr
theorem cpl_go {c n a3 a4 a5 a6 a7 a8 a9 a10 a11 a12 ww tt cc S : Nat} : ∀ k, (∀ l1 W M, oleK (fun W => Option.bind (f_MO_findF_wanted 4 n ww tt S W 0 0 0 0 0) (fun q4 => some (q4.1, cc, q4.2))) (fr_MO_cpl n k 0 l1 S W M 0 0) (fr_MO_complementF c n a3 a4 a5 a6 a7 a8 a9 a10 a11 a12 k 0 l1 cc ww tt S W M 0 0)) ∧ (∀ l1 l2 l3 W M, oleK (fun W => Option.bind (f_MO_findF_wanted 4 n ww tt S W 0 0 0 0 0) (fun q4 => some (q4.1, cc, q4.2))) (fr_MO_cpl n k 1 l1 l2 l3 S W M) (fr_MO_complementF c n a3 a4 a5 a6 a7 a8 a9 a10 a11 a12 k 1 l1 l2 l3 cc ww tt S W M)) ∧ (∀ l1 W M, oleK (fun W => Option.bind (f_MO_findF_wanted 4 n ww tt S W 0 0 0 0 0) (fun q4 => some (q4.1, cc, q4.2))) (fr_MO_cpl n k 2 l1 S W M 0 0) (fr_MO_complementF c n a3 a4 a5 a6 a7 a8 a9 a10 a11 a12 k 2 l1 cc ww tt S W M 0 0)) ∧ (∀ l1 l2 l3 W M, oleK (fun W => Option.bind (f_MO_findF_wanted 4 n ww tt S W 0 0 0 0 0) (fun q4 => some (q4.1, cc, q4.2))) (fr_MO_cpl n k 3 l1 l2 l3 S W M) (fr_MO_complementF c n a3 a4 a5 a6 a7 a8 a9 a10 a11 a12 k 3 l1 l2 l3 cc ww tt S W M)) := by
  intro k
  induction k with
  | zero => exact ⟨fun _ _ _ => oleK_nn, fun _ _ _ _ _ => oleK_nn, fun _ _ _ => oleK_nn, fun _ _ _ _ _ => oleK_nn⟩
  | succ k ih =>
    obtain ⟨i0, i1, i2, i3⟩ := ih
    refine ⟨fun l1 W M => ?_, fun l1 l2 l3 W M => ?_, fun l1 W M => ?_, fun l1 l2 l3 W M => ?_⟩
    · show oleK _ (b_MO_cpl_21 (fr_MO_cpl n k) n l1 S W M) (b_MO_complementF_21 (fr_MO_complementF c n a3 a4 a5 a6 a7 a8 a9 a10 a11 a12 k) c n a3 a4 a5 a6 a7 a8 a9 a10 a11 a12 l1 cc ww tt S W M)
      unfold b_MO_cpl_21 b_MO_complementF_21
      repeat' first
      | with_reducible exact oleK_nn
      | with_reducible exact i0 _ _ _
      | with_reducible exact i1 _ _ _ _ _
      | with_reducible exact i2 _ _ _
      | with_reducible exact i3 _ _ _ _ _
      | with_reducible refine oleK_bif ?_ ?_
      | with_reducible refine oleK_fz (fun _ => ?_)
      | with_reducible refine oleK_rd (fun _ => ?_)
      | exact oleK_some (K := (fun W => Option.bind (f_MO_findF_wanted 4 n ww tt S W 0 0 0 0 0) (fun q4 => some (q4.1, cc, q4.2)))) _
    · show oleK _ (b_MO_cpl_38 (fr_MO_cpl n k) n l1 l2 l3 S W M) (b_MO_complementF_38 (fr_MO_complementF c n a3 a4 a5 a6 a7 a8 a9 a10 a11 a12 k) c n a3 a4 a5 a6 a7 a8 a9 a10 a11 a12 l1 l2 l3 cc ww tt S W M)
      unfold b_MO_cpl_38 b_MO_complementF_38 j_MO_cpl_86 j_MO_cpl_107 j_MO_cpl_63 j_MO_complementF_86 j_MO_complementF_107 j_MO_complementF_63
      repeat' first
      | with_reducible exact oleK_nn
      | with_reducible exact i0 _ _ _
      | with_reducible exact i1 _ _ _ _ _
      | with_reducible exact i2 _ _ _
      | with_reducible exact i3 _ _ _ _ _
      | with_reducible refine oleK_bif ?_ ?_
      | with_reducible refine oleK_fz (fun _ => ?_)
      | with_reducible refine oleK_rd (fun _ => ?_)
      | exact oleK_some (K := (fun W => Option.bind (f_MO_findF_wanted 4 n ww tt S W 0 0 0 0 0) (fun q4 => some (q4.1, cc, q4.2)))) _
    · show oleK _ (b_MO_cpl_117 (fr_MO_cpl n k) n l1 S W M) (b_MO_complementF_117 (fr_MO_complementF c n a3 a4 a5 a6 a7 a8 a9 a10 a11 a12 k) c n a3 a4 a5 a6 a7 a8 a9 a10 a11 a12 l1 cc ww tt S W M)
      unfold b_MO_cpl_117 b_MO_complementF_117
      repeat' first
      | with_reducible exact oleK_nn
      | with_reducible exact i0 _ _ _
      | with_reducible exact i1 _ _ _ _ _
      | with_reducible exact i2 _ _ _
      | with_reducible exact i3 _ _ _ _ _
      | with_reducible refine oleK_bif ?_ ?_
      | with_reducible refine oleK_fz (fun _ => ?_)
      | with_reducible refine oleK_rd (fun _ => ?_)
      | exact oleK_some (K := (fun W => Option.bind (f_MO_findF_wanted 4 n ww tt S W 0 0 0 0 0) (fun q4 => some (q4.1, cc, q4.2)))) _
    · show oleK _ (b_MO_cpl_134 (fr_MO_cpl n k) n l1 l2 l3 S W M) (b_MO_complementF_134 (fr_MO_complementF c n a3 a4 a5 a6 a7 a8 a9 a10 a11 a12 k) c n a3 a4 a5 a6 a7 a8 a9 a10 a11 a12 l1 l2 l3 cc ww tt S W M)
      unfold b_MO_cpl_134 b_MO_complementF_134 j_MO_cpl_149 j_MO_complementF_149
      repeat' first
      | with_reducible exact oleK_nn
      | with_reducible exact i0 _ _ _
      | with_reducible exact i1 _ _ _ _ _
      | with_reducible exact i2 _ _ _
      | with_reducible exact i3 _ _ _ _ _
      | with_reducible refine oleK_bif ?_ ?_
      | with_reducible refine oleK_fz (fun _ => ?_)
      | with_reducible refine oleK_rd (fun _ => ?_)
      | exact oleK_some (K := (fun W => Option.bind (f_MO_findF_wanted 4 n ww tt S W 0 0 0 0 0) (fun q4 => some (q4.1, cc, q4.2)))) _
noncomputable def ckP (n k : Nat) : Bool := oB (f_RK_seek n k 0 0 0) (fun r => fz r.2.1 (fun C => oB (f_CW_complement 0 0 0 C n 0 0 0) (fun q => fz q.1 (fun k2 => bnd (Nat.blt k2 (cat n)) (bnd (Nat.beq q.2.2.2.2.2.2 n) (oB (f_RK_seek n k2 0 0 0) (fun r2 => fz r2.2.1 (fun C2 => bnd (Nat.beq q.2.2.2.2.1 r2.1) (bnd (Nat.beq q.2.2.2.2.2.1 C2) (oB (f_PA_write 0 C n 0) (fun a => fz a.2 (fun N => oB (fr_MO_cpl n 1000000 0 0 N 0 0 0 0) (fun W => oB (f_PA_write 0 C2 n 0) (fun a2 => fz a2.2 (fun N2 => alB (fun i => Nat.beq (ag W i) (ag N2 i)) 0 n)))))))))))))))
def AllP : Prop := ∀ n k : Nat, 1 ≤ n → n ≤ 9 → k < cat n → ckP n k = true
theorem cpl_pb (a b c C n d e p : Nat) : f_CW_complement a b c C n d e p = f_CW_complement a b c C n d e 0 := by
  unfold f_CW_complement f_WD_begin
  rfl
theorem facts_complement (hA : AllA) (hP : AllP) : F_complement wB wC cat := by
  intro n k h1 h2 hk
  have hc := hP n k h1 h2 hk
  unfold ckP at hc
  rw [(w_all h1 h2 hk).1] at hc
  obtain ⟨r, e, hc⟩ := oB_t hc
  have e := Option.some.inj e
  subst e
  rw [fz_eq] at hc
  dsimp only at hc
  obtain ⟨q, e, hc⟩ := oB_t hc
  rw [fz_eq] at hc
  obtain ⟨c1, hc⟩ := bnd_t hc
  obtain ⟨c2, hc⟩ := bnd_t hc
  have c1 : q.1 < cat n := Nat.blt_eq.mp c1
  rw [(w_all h1 h2 c1).1] at hc
  obtain ⟨r2, e2, hc⟩ := oB_t hc
  have e2 := Option.some.inj e2
  subst e2
  rw [fz_eq] at hc
  dsimp only at hc
  obtain ⟨c3, hc⟩ := bnd_t hc
  obtain ⟨c4, hc⟩ := bnd_t hc
  obtain ⟨⟨⟨y, eW⟩, -⟩, ⟨a, ea, ea2⟩, -⟩ := (a_all hA h1 h2 hk).2.2.2.2.2.1
  obtain ⟨R2, ⟨b, eb, eb2⟩, -⟩ := (a_all hA h1 h2 c1).2.2.2.2.2.1
  rw [ea] at hc
  obtain ⟨a', e3, hc⟩ := oB_t hc
  have e3 := Option.some.inj e3
  subst e3
  rw [fz_eq, ea2] at hc
  obtain ⟨W, e4, hc⟩ := oB_t hc
  rw [eb] at hc
  obtain ⟨b', e5, hc⟩ := oB_t hc
  have e5 := Option.some.inj e5
  subst e5
  rw [fz_eq, eb2] at hc
  have hw : ∀ i, i < n → ag W i = ag (nN 4 n q.1) i := fun i hi => Nat.eq_of_beq_eq_true ((upTo.z _).ext (a := 0) (m := n) hc i (by omega))
  obtain ⟨O, hO, hs⟩ := copy_k h1 h2 c1 (wB n k)
  refine ⟨q.1, q, (q.1, 0, O), c1, fun pb => by rw [cpl_pb]; exact e, ?_, ?_, Nat.eq_of_beq_eq_true c2, fun c => ?_, rfl, hs⟩
  · rw [Nat.eq_of_beq_eq_true c3]
    exact sbO_rfl _
  · rw [Nat.eq_of_beq_eq_true c4]
    exact sbO_rfl _
  · unfold f_MO_complementF e_MO_complementF
    rw [weq_write_word_shown, eW]
    simp only [ob_s]
    rw [fz_eq]
    have g := (cpl_go (c := c) (n := n) (a3 := wB n k) (a4 := 0) (a5 := 0) (a6 := 0) (a7 := 0) (a8 := 0) (a9 := 0) (a10 := 0) (a11 := 0) (a12 := 0) (ww := wB n k) (tt := 0) (cc := 0) (S := nN 4 n k) 1000000).1 0 0 0 W e4
    rw [g]
    show Option.bind (f_MO_findF_wanted 4 n (wB n k) 0 (nN 4 n k) W 0 0 0 0 0) _ = _
    rw [find_wantedO (famR4 hA) h1 h2 c1 hw (wB n k) (nN 4 n k) hO]
    rfl
