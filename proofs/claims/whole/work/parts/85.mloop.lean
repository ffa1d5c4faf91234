/-! overlays are told by their entries; the reference's loops over the words -/
theorem ov_ext {O O2 m : Nat} (h1 : O < 2 ^ (33 * m)) (h2 : O2 < 2 ^ (33 * m)) (h : ∀ i, i < m → ag O i = ag O2 i) : O = O2 := by
  apply Nat.eq_of_testBit_eq
  intro t
  by_cases ht : t < 33 * m
  · have hi : t / 33 < m := by omega
    have e := congrArg (fun z => z.testBit (t % 33)) (h (t / 33) hi)
    have e2 : (ag O (t / 33)).testBit (t % 33) = (ag O2 (t / 33)).testBit (t % 33) := e
    rw [ag_bit, ag_bit] at e2
    have h3 : t % 33 < 33 := Nat.mod_lt _ (by omega)
    have h4 : 33 * (t / 33) + t % 33 = t := Nat.div_add_mod t 33
    rw [decide_eq_true h3, h4] at e2
    simpa using e2
  · rw [Nat.testBit_lt_two_pow (Nat.lt_of_lt_of_le h1 (Nat.pow_le_pow_right (by omega) (by omega))), Nat.testBit_lt_two_pow (Nat.lt_of_lt_of_le h2 (Nat.pow_le_pow_right (by omega) (by omega)))]
theorem ckK_all {n k : Nat} (h1 : 1 ≤ n) (h2 : n ≤ 9) (hk : k < cat n) : ckK n k = true := by
  rcases (by omega : n = 1 ∨ n = 2 ∨ n = 3 ∨ n = 4 ∨ n = 5 ∨ n = 6 ∨ n = 7 ∨ n = 8 ∨ n = 9) with rfl | rfl | rfl | rfl | rfl | rfl | rfl | rfl | rfl
  · exact uk1 k hk
  · exact uk2 k hk
  · exact uk3 k hk
  · exact uk4 k hk
  · exact uk5 k hk
  · exact uk6 k hk
  · exact uk7 k hk
  · exact uk8 k hk
  · exact uk9 k hk
theorem w_bits {n k : Nat} (h1 : 1 ≤ n) (h2 : n ≤ 9) (hk : k < cat n) : wB n k < 2 ^ (33 * (2 * n)) ∧ ∀ i, i < 2 * n → ag (wB n k) i = 1 ∨ ag (wB n k) i = 2 := by
  have hc := ckK_all h1 h2 hk
  unfold ckK at hc
  rw [(w_all h1 h2 hk).1] at hc
  obtain ⟨c1, c2⟩ := bnd_t (a := Nat.blt (wB n k) (Nat.pow 2 (Nat.mul 66 n))) hc
  refine ⟨?_, fun i hi => ?_⟩
  · have h := Nat.blt_eq.mp c1
    have e : 33 * (2 * n) = Nat.mul 66 n := by
      show 33 * (2 * n) = 66 * n
      omega
    rw [e]
    exact h
  · have h := (upTo.z (fun i => bnd (Nat.blt 0 (ag (wB n k) i)) (Nat.blt (ag (wB n k) i) 3))).ext (a := 0) (m := 2 * n) c2 i (by omega)
    obtain ⟨g1, g2⟩ := bnd_t h
    have g1 := Nat.blt_eq.mp g1
    have g2 := Nat.blt_eq.mp g2
    omega
theorem w_kno {n k : Nat} (h1 : 1 ≤ n) (h2 : n ≤ 9) (hk : k < cat n) : kno (wB n k) (2 * n) := fun i hi => by
  rcases (w_bits h1 h2 hk).2 i hi with h | h
  · exact ⟨0, by omega, h⟩
  · exact ⟨1, by omega, h⟩
theorem w_ne {n j k : Nat} (h1 : 1 ≤ n) (h2 : n ≤ 9) (hj : j < cat n) (hk : k < cat n) (h : j ≠ k) : ∃ i, i < 2 * n ∧ ag (wB n j) i ≠ ag (wB n k) i := by
  apply Classical.byContradiction
  intro hn
  have e : wB n j = wB n k := ov_ext (w_bits h1 h2 hj).1 (w_bits h1 h2 hk).1 (fun i hi => by
    apply Classical.byContradiction
    intro h9
    exact hn ⟨i, hi, h9⟩)
  have a := (w_all h1 h2 hj).2.1
  rw [e, (w_all h1 h2 hk).2.1] at a
  exact h (Option.some.inj a).symm
theorem w_first {n : Nat} (h1 : 1 ≤ n) (h2 : n ≤ 9) : f_MO_first_tried n 0 = some (wB n 0) ∧ f_MO_first_word n 0 = some (wB n 0) := by
  have key : ∀ m, Option.rec (motive := fun _ => Bool) false (fun a => Option.rec (motive := fun _ => Bool) false (fun b => Option.rec (motive := fun _ => Bool) false (fun r => bnd (Nat.beq a r.1) (Nat.beq b r.1)) (f_RK_seek m 0 0 0 0)) (f_MO_first_word m 0)) (f_MO_first_tried m 0) = true → f_RK_seek m 0 0 0 0 = some (wB m 0, wC m 0, m) → f_MO_first_tried m 0 = some (wB m 0) ∧ f_MO_first_word m 0 = some (wB m 0) := fun m h hs => by
    cases ha : f_MO_first_tried m 0 with
    | none => rw [ha] at h; cases h
    | some a =>
      rw [ha] at h
      cases hb : f_MO_first_word m 0 with
      | none => rw [hb] at h; cases h
      | some b =>
        rw [hb, hs] at h
        obtain ⟨g1, g2⟩ := bnd_t (a := Nat.beq a (wB m 0)) h
        rw [Nat.eq_of_beq_eq_true g1, Nat.eq_of_beq_eq_true g2]
        exact ⟨rfl, rfl⟩
  have hs := (w_all h1 h2 (cat_le h1 h2).1).1
  refine key n ?_ hs
  rcases (by omega : n = 1 ∨ n = 2 ∨ n = 3 ∨ n = 4 ∨ n = 5 ∨ n = 6 ∨ n = 7 ∨ n = 8 ∨ n = 9) with rfl | rfl | rfl | rfl | rfl | rfl | rfl | rfl | rfl <;> decide +kernel
theorem iM2 {n : Nat} (h2 : n ≤ 9) : iM 2 n = 2 * n := iM_n (by omega)
theorem rank_go {n k : Nat} (h1 : 1 ≤ n) (h2 : n ≤ 9) (hk : k < cat n) : ∀ d fuel j, j + d = k → d < fuel → fr_MO_rankOf n (wB n k) 0 fuel j (wB n j) = some (k, wB n k) := by
  have hc := cat_le h1 h2
  intro d
  induction d with
  | zero =>
    intro fuel j hj hf
    obtain ⟨m, rfl⟩ : ∃ m, fuel = m + 1 := ⟨fuel - 1, by omega⟩
    obtain rfl : j = k := by omega
    rw [frs_MO_rankOf_10]
    unfold b_MO_rankOf_10
    rw [iM2 h2, same_tw_eq, gs_t (by omega) (by omega) (by omega) (w_kno h1 h2 hk) (w_kno h1 h2 hk) (fun _ _ => rfl)]
    simp only [Option.bind_some]
    rw [iEq_f (by omega) (by omega) (by omega)]
  | succ d ih =>
    intro fuel j hj hf
    obtain ⟨m, rfl⟩ : ∃ m, fuel = m + 1 := ⟨fuel - 1, by omega⟩
    have hjc : j < cat n := by omega
    rw [frs_MO_rankOf_10]
    unfold b_MO_rankOf_10
    rw [iM2 h2, same_tw_eq, gs_f (by omega) (by omega) (by omega) (w_kno h1 h2 hjc) (w_kno h1 h2 hk) (w_ne h1 h2 hjc hk (by omega))]
    simp only [Option.bind_some]
    rw [iEq_t, (w_all h1 h2 hjc).2.2.1 (by omega)]
    simp only [Option.bind_some]
    rw [iEq_f (by omega) (by omega) (by omega), fz_eq, fz_eq, iA_n (by omega)]
    exact ih m (j + 1) (by omega) (by omega)
theorem mo_rankOf {n k : Nat} (h1 : 1 ≤ n) (h2 : n ≤ 9) (hk : k < cat n) : f_MO_rankOf n (wB n k) 0 = some (k, wB n k) := by
  have hc := cat_le h1 h2
  unfold f_MO_rankOf e_MO_rankOf
  rw [(w_first h1 h2).1]
  show fr_MO_rankOf n (wB n k) 0 1000000 0 (wB n 0) = _
  exact rank_go h1 h2 hk k 1000000 0 (by omega) (by omega)
theorem facts_rank : F_rank wB cat := by
  intro n k h1 h2 hk
  refine ⟨k, (k, 0, wB n k), cw_rank h1 h2 hk, fun c => ?_, rfl⟩
  unfold f_MO_rank
  rw [mo_rankOf h1 h2 hk]
  rfl
theorem count_go {n : Nat} (h1 : 1 ≤ n) (h2 : n ≤ 9) : ∀ d fuel j, j + d + 1 = cat n → d < fuel → ∃ B, fr_MO_count n 0 fuel (j + 1) (wB n j) = some (cat n, B) := by
  have hc := cat_le h1 h2
  intro d
  induction d with
  | zero =>
    intro fuel j hj hf
    obtain ⟨m, rfl⟩ : ∃ m, fuel = m + 1 := ⟨fuel - 1, by omega⟩
    obtain ⟨B, hB⟩ := (w_all h1 h2 (show j < cat n by omega)).2.2.2 (by omega)
    refine ⟨B, ?_⟩
    rw [frs_MO_count_10]
    unfold b_MO_count_10
    rw [hB]
    simp only [Option.bind_some]
    rw [iEq_t, show j + 1 = cat n by omega]
  | succ d ih =>
    intro fuel j hj hf
    obtain ⟨m, rfl⟩ : ∃ m, fuel = m + 1 := ⟨fuel - 1, by omega⟩
    obtain ⟨B, hB⟩ := ih m (j + 1) (by omega) (by omega)
    refine ⟨B, ?_⟩
    rw [frs_MO_count_10]
    unfold b_MO_count_10
    rw [(w_all h1 h2 (show j < cat n by omega)).2.2.1 (by omega)]
    simp only [Option.bind_some]
    rw [iEq_f (by omega) (by omega) (by omega), fz_eq, fz_eq, iA_n (by omega)]
    exact hB
theorem mo_count {n : Nat} (h1 : 1 ≤ n) (h2 : n ≤ 9) : ∃ B, f_MO_count n 0 = some (cat n, B) := by
  have hc := cat_le h1 h2
  obtain ⟨B, hB⟩ := count_go h1 h2 (cat n - 1) 1000000 0 (by omega) (by omega)
  refine ⟨B, ?_⟩
  unfold f_MO_count e_MO_count
  rw [(w_first h1 h2).1]
  exact hB
theorem facts_size : F_size wB wC cat := by
  intro n k x h1 h2 hk hx
  by_cases h : 1 ≤ x ∧ x ≤ 9
  · obtain ⟨B, hB⟩ := mo_count h.1 h.2
    refine Or.inl ⟨(cat x, wB x 0, wC x 0, x), (cat x, 0, x, wB x 0, B), ⟨h.1, h.2, (cat_le h.1 h.2).1⟩, cw_size h.1 h.2, fun _ _ => rfl, fun _ _ => rfl, fun c => ?_, rfl, rfl, rfl, fun _ _ => rfl⟩
    unfold f_MO_size j_MO_size_17
    rw [iLt_f (by omega) (by omega) (by omega), iLt_f (by omega) (by omega) (by omega), iLt_f (by omega) (by omega) (by omega), (w_first h.1 h.2).2]
    show Option.bind (f_MO_count x 0) _ = _
    rw [hB]
    rfl
  · refine Or.inr ⟨0, (0, 1, n, wB n k, 0), cw_sizeX hx h, fun c => ?_, rfl, rfl, fun _ _ => rfl⟩
    unfold f_MO_size j_MO_size_12 j_MO_size_17
    by_cases hb : x < 2147483648
    · by_cases h3 : x < 1
      · rw [iLt_t hb (by omega) h3, iLt_t (by omega) (by omega) (by omega)]
      · rw [iLt_f hb (by omega) (by omega), iLt_t (by omega) hb (by omega), iLt_t (by omega) (by omega) (by omega)]
    · rw [iLt_big (by omega) hx 1 (by omega), iLt_t (by omega) (by omega) (by omega)]
