/-! unrank; the reference's find; show -/
theorem unrank_hit {n x : Nat} (h1 : 1 ≤ n) (h2 : n ≤ 9) (hx : x < cat n) (c z w t : Nat) {O : Nat} (hO : f_MO_copy_tried_word (2 * n) w (wB n x) = some O) : ∀ d fuel j, j + d = x → d < fuel → fr_MO_unrank x c n z t fuel x j 1 c w (wB n j) = some (0, O, wB n x) := by
  have hc := cat_le h1 h2
  intro d
  induction d with
  | zero =>
    intro fuel j hj hf
    obtain ⟨m, rfl⟩ : ∃ m, fuel = m + 1 := ⟨fuel - 1, by omega⟩
    obtain rfl : j = x := by omega
    rw [frs_MO_unrank_20]
    unfold b_MO_unrank_20 j_MO_unrank_44 j_MO_unrank_54
    rw [iEq_f (by omega) (by omega) (by omega), iLt_f (by omega) (by omega) (by omega), iEq_f (by omega) (by omega) (by omega), iEq_f (by omega) (by omega) (by omega), iM2 h2, hO]
    rfl
  | succ d ih =>
    intro fuel j hj hf
    obtain ⟨m, rfl⟩ : ∃ m, fuel = m + 1 := ⟨fuel - 1, by omega⟩
    rw [frs_MO_unrank_20]
    unfold b_MO_unrank_20
    rw [iEq_f (by omega) (by omega) (by omega), iLt_t (by omega) (by omega) (by omega), (w_all h1 h2 (show j < cat n by omega)).2.2.1 (by omega)]
    simp only [Option.bind_some]
    rw [fz_eq, fz_eq, fz_eq, iA_n (by omega)]
    exact ih m (j + 1) (by omega) (by omega)
theorem unrank_miss {n x : Nat} (h1 : 1 ≤ n) (h2 : n ≤ 9) (hx : cat n ≤ x) (hx2 : x < 2147483648) (c z w t : Nat) {B : Nat} (hB : f_MO_next n (wB n (cat n - 1)) = some (0, B)) : ∀ d fuel j, j + d + 1 = cat n → d + 1 < fuel → fr_MO_unrank x c n z t fuel x j 1 c w (wB n j) = some (1, w, B) := by
  have hc := cat_le h1 h2
  intro d
  induction d with
  | zero =>
    intro fuel j hj hf
    obtain ⟨m, rfl⟩ : ∃ m, fuel = m + 1 + 1 := ⟨fuel - 2, by omega⟩
    obtain rfl : j = cat n - 1 := by omega
    rw [frs_MO_unrank_20]
    unfold b_MO_unrank_20
    rw [iEq_f (by omega) (by omega) (by omega), iLt_t (by omega) (by omega) (by omega), hB]
    simp only [Option.bind_some]
    rw [fz_eq, fz_eq, fz_eq, frs_MO_unrank_20]
    unfold b_MO_unrank_20 j_MO_unrank_44 j_MO_unrank_54
    rw [iEq_t, iEq_t, iEq_t]
  | succ d ih =>
    intro fuel j hj hf
    obtain ⟨m, rfl⟩ : ∃ m, fuel = m + 1 := ⟨fuel - 1, by omega⟩
    rw [frs_MO_unrank_20]
    unfold b_MO_unrank_20
    rw [iEq_f (by omega) (by omega) (by omega), iLt_t (by omega) (by omega) (by omega), (w_all h1 h2 (show j < cat n by omega)).2.2.1 (by omega)]
    simp only [Option.bind_some]
    rw [fz_eq, fz_eq, fz_eq, iA_n (by omega)]
    exact ih m (j + 1) (by omega) (by omega)
theorem w_top {n k O w : Nat} (h1 : 1 ≤ n) (h2 : n ≤ 9) (hk : k < cat n) (h : ∀ i, ag O i = if i < 2 * n then ag (wB n k) i else ag w i) : sbO (wB n k) O := fun i hi => by
  by_cases hn : i < 2 * n
  · rw [h i, if_pos hn]
  · exfalso
    apply hi
    have hb := (w_bits h1 h2 hk).1
    unfold ag
    rw [fz_eq, fz_eq]
    show ((wB n k) >>> (33 * i)) % 8589934592 = 0
    rw [Nat.shiftRight_eq_div_pow, Nat.div_eq_of_lt (Nat.lt_of_lt_of_le hb (Nat.pow_le_pow_right (by omega) (by omega)))]
theorem facts_unrank : F_unrank wB wC cat := by
  intro n k x h1 h2 hk hx
  have hc := cat_le h1 h2
  by_cases hlt : x < cat n
  · obtain ⟨O, hO, hi⟩ := gc_t (na := 18) (nb := 18) (A := wB n x) (m := 2 * n) (by omega) (by omega) (by omega) (w_kno h1 h2 hlt) 0
    refine Or.inl ⟨x, (wB n x, wC n x, n), (0, O, wB n x), hlt, cw_unrank h1 h2 hlt, fun _ _ => rfl, fun _ _ => rfl, rfl, fun c => ?_, rfl, w_top h1 h2 hlt hi⟩
    unfold f_MO_unrank e_MO_unrank j_MO_unrank_19
    rw [(w_first h1 h2).1]
    simp only [Option.bind_some]
    rw [iLt_f (by omega) (by omega) (by omega)]
    exact unrank_hit h1 h2 hlt c 0 0 0 (by rw [copy_tw_eq]; exact hO) x 1000000 0 (by omega) (by omega)
  · by_cases hb : x < 2147483648
    · obtain ⟨B, hB⟩ := (w_all h1 h2 (show cat n - 1 < cat n by omega)).2.2.2 (by omega)
      refine Or.inr ⟨0, (1, wB n k, B), cw_unrankX h1 h2 hx (by omega), fun c => ?_, rfl, fun _ _ => rfl⟩
      unfold f_MO_unrank e_MO_unrank j_MO_unrank_19
      rw [(w_first h1 h2).1]
      simp only [Option.bind_some]
      rw [iLt_f (by omega) (by omega) (by omega)]
      exact unrank_miss h1 h2 (by omega) hb c (wB n k) (wB n k) 0 hB (cat n - 1) 1000000 0 (by omega) (by omega)
    · refine Or.inr ⟨0, (1, wB n k, wB n 0), cw_unrankX h1 h2 hx (by omega), fun c => ?_, rfl, fun _ _ => rfl⟩
      unfold f_MO_unrank e_MO_unrank j_MO_unrank_19
      rw [(w_first h1 h2).1]
      simp only [Option.bind_some]
      rw [iLt_big (by omega) hx 0 (by omega)]
      show fr_MO_unrank x c n (wB n k) 0 (999999 + 1) x 0 0 c (wB n k) (wB n 0) = _
      rw [frs_MO_unrank_20]
      unfold b_MO_unrank_20 j_MO_unrank_44 j_MO_unrank_54
      rw [iEq_t, iEq_t, iEq_t]
theorem n_diff {i m n j k : Nat} (hj : RefW i m n j) (hk : RefW i m n k) (h : nN i n j ≠ nN i n k) : ∃ t, t < m ∧ ag (nN i n j) t ≠ ag (nN i n k) t := by
  apply Classical.byContradiction
  intro hn
  apply h
  exact ov_ext hj.2.1 hk.2.1 (fun t ht => by
    apply Classical.byContradiction
    intro h9
    exact hn ⟨t, ht, h9⟩)
theorem find_note_hit {i : Nat} {len : Nat → Nat} (hF : FamR i len) {n k W : Nat} (h1 : 1 ≤ n) (h2 : n ≤ 9) (hk : k < cat n) (hW : ∀ t, t < len n → ag W t = ag (nN i n k) t) (x a2 a3 a4 a5 a6 a7 a8 a9 w : Nat) {O : Nat} (hO : f_MO_copy_tried_word (2 * n) w (wB n k) = some O) : ∀ d fuel j, j + d = k → d < fuel → fr_MO_findF_note x n a2 W a3 a4 a5 a6 a7 a8 a9 fuel i j 1 w (wB n j) = some (k, O) := by
  have hc := cat_le h1 h2
  obtain ⟨hl, hF⟩ := hF n h1 h2
  obtain ⟨⟨⟨yk, ek⟩, hk1, hk2⟩, hi⟩ := hF k hk
  have hWk : kno W (len n) := fun t ht => by
    rw [hW t ht]
    exact hk2 t ht
  intro d
  induction d with
  | zero =>
    intro fuel j hj hf
    obtain ⟨m, rfl⟩ : ∃ m, fuel = m + 1 := ⟨fuel - 1, by omega⟩
    obtain rfl : j = k := by omega
    rw [frs_MO_findF_note_13]
    unfold b_MO_findF_note_13
    rw [iEq_f (by omega) (by omega) (by omega), ek]
    simp only [Option.bind_some]
    rw [same_sn_eq, gs_t hl hl (by omega) hk2 hWk (fun t ht => (hW t ht).symm)]
    simp only [Option.bind_some]
    rw [iEq_f (by omega) (by omega) (by omega), iM2 h2, hO]
    rfl
  | succ d ih =>
    intro fuel j hj hf
    obtain ⟨m, rfl⟩ : ∃ m, fuel = m + 1 := ⟨fuel - 1, by omega⟩
    have hjc : j < cat n := by omega
    obtain ⟨⟨⟨yj, ej⟩, hj1, hj2⟩, hij⟩ := hF j hjc
    rw [frs_MO_findF_note_13]
    unfold b_MO_findF_note_13
    rw [iEq_f (by omega) (by omega) (by omega), ej]
    simp only [Option.bind_some]
    rw [same_sn_eq, gs_f hl hl (by omega) hj2 hWk (by
      obtain ⟨t, t1, t2⟩ := n_diff (hF j hjc).1 (hF k hk).1 (fun e => by
        have := hi j hjc e
        omega)
      exact ⟨t, t1, by rw [hW t t1]; exact t2⟩)]
    simp only [Option.bind_some]
    rw [iEq_t, (w_all h1 h2 hjc).2.2.1 (by omega)]
    simp only [Option.bind_some]
    rw [fz_eq, fz_eq, fz_eq, iA_n (by omega)]
    exact ih m (j + 1) (by omega) (by omega)
theorem find_note_miss {i : Nat} {len : Nat → Nat} (hF : FamR i len) {n W : Nat} (h1 : 1 ≤ n) (h2 : n ≤ 9) (hWk : kno W (len n)) (hW : ∀ j, j < cat n → ∃ t, t < len n ∧ ag (nN i n j) t ≠ ag W t) (x a2 a3 a4 a5 a6 a7 a8 a9 w : Nat) : ∀ d fuel j, j + d + 1 = cat n → d + 1 < fuel → fr_MO_findF_note x n a2 W a3 a4 a5 a6 a7 a8 a9 fuel i j 1 w (wB n j) = some (4294967295, w) := by
  have hc := cat_le h1 h2
  obtain ⟨hl, hF⟩ := hF n h1 h2
  intro d
  induction d with
  | zero =>
    intro fuel j hj hf
    obtain ⟨m, rfl⟩ : ∃ m, fuel = m + 1 + 1 := ⟨fuel - 2, by omega⟩
    have hjc : j < cat n := by omega
    obtain ⟨⟨⟨yj, ej⟩, hj1, hj2⟩, -⟩ := hF j hjc
    obtain ⟨B, hB⟩ := (w_all h1 h2 hjc).2.2.2 (by omega)
    rw [frs_MO_findF_note_13]
    unfold b_MO_findF_note_13
    rw [iEq_f (by omega) (by omega) (by omega), ej]
    simp only [Option.bind_some]
    rw [same_sn_eq, gs_f hl hl (by omega) hj2 hWk (hW j hjc)]
    simp only [Option.bind_some]
    rw [iEq_t, hB]
    simp only [Option.bind_some]
    rw [fz_eq, fz_eq, fz_eq, frs_MO_findF_note_13]
    unfold b_MO_findF_note_13
    rw [iEq_t]
  | succ d ih =>
    intro fuel j hj hf
    obtain ⟨m, rfl⟩ : ∃ m, fuel = m + 1 := ⟨fuel - 1, by omega⟩
    have hjc : j < cat n := by omega
    obtain ⟨⟨⟨yj, ej⟩, hj1, hj2⟩, -⟩ := hF j hjc
    rw [frs_MO_findF_note_13]
    unfold b_MO_findF_note_13
    rw [iEq_f (by omega) (by omega) (by omega), ej]
    simp only [Option.bind_some]
    rw [same_sn_eq, gs_f hl hl (by omega) hj2 hWk (hW j hjc)]
    simp only [Option.bind_some]
    rw [iEq_t, (w_all h1 h2 hjc).2.2.1 (by omega)]
    simp only [Option.bind_some]
    rw [fz_eq, fz_eq, fz_eq, iA_n (by omega)]
    exact ih m (j + 1) (by omega) (by omega)
theorem find_wanted_hit {i : Nat} {len : Nat → Nat} (hF : FamR i len) {n k W : Nat} (h1 : 1 ≤ n) (h2 : n ≤ 9) (hk : k < cat n) (hW : ∀ t, t < len n → ag W t = ag (nN i n k) t) (x a2 a3 a4 a5 a6 a7 a8 a9 w : Nat) {O : Nat} (hO : f_MO_copy_tried_word (2 * n) w (wB n k) = some O) : ∀ d fuel j, j + d = k → d < fuel → fr_MO_findF_wanted x n a2 a3 a4 W a5 a6 a7 a8 a9 fuel i j 1 w (wB n j) = some (k, O) := by
  have hc := cat_le h1 h2
  obtain ⟨hl, hF⟩ := hF n h1 h2
  obtain ⟨⟨⟨yk, ek⟩, hk1, hk2⟩, hi⟩ := hF k hk
  have hWk : kno W (len n) := fun t ht => by
    rw [hW t ht]
    exact hk2 t ht
  intro d
  induction d with
  | zero =>
    intro fuel j hj hf
    obtain ⟨m, rfl⟩ : ∃ m, fuel = m + 1 := ⟨fuel - 1, by omega⟩
    obtain rfl : j = k := by omega
    rw [frs_MO_findF_wanted_13]
    unfold b_MO_findF_wanted_13
    rw [iEq_f (by omega) (by omega) (by omega), ek]
    simp only [Option.bind_some]
    rw [same_sw_eq, gs_t hl hl (by omega) hk2 hWk (fun t ht => (hW t ht).symm)]
    simp only [Option.bind_some]
    rw [iEq_f (by omega) (by omega) (by omega), iM2 h2, hO]
    rfl
  | succ d ih =>
    intro fuel j hj hf
    obtain ⟨m, rfl⟩ : ∃ m, fuel = m + 1 := ⟨fuel - 1, by omega⟩
    have hjc : j < cat n := by omega
    obtain ⟨⟨⟨yj, ej⟩, hj1, hj2⟩, hij⟩ := hF j hjc
    rw [frs_MO_findF_wanted_13]
    unfold b_MO_findF_wanted_13
    rw [iEq_f (by omega) (by omega) (by omega), ej]
    simp only [Option.bind_some]
    rw [same_sw_eq, gs_f hl hl (by omega) hj2 hWk (by
      obtain ⟨t, t1, t2⟩ := n_diff (hF j hjc).1 (hF k hk).1 (fun e => by
        have := hi j hjc e
        omega)
      exact ⟨t, t1, by rw [hW t t1]; exact t2⟩)]
    simp only [Option.bind_some]
    rw [iEq_t, (w_all h1 h2 hjc).2.2.1 (by omega)]
    simp only [Option.bind_some]
    rw [fz_eq, fz_eq, fz_eq, iA_n (by omega)]
    exact ih m (j + 1) (by omega) (by omega)
theorem find_wanted_miss {i : Nat} {len : Nat → Nat} (hF : FamR i len) {n W : Nat} (h1 : 1 ≤ n) (h2 : n ≤ 9) (hWk : kno W (len n)) (hW : ∀ j, j < cat n → ∃ t, t < len n ∧ ag (nN i n j) t ≠ ag W t) (x a2 a3 a4 a5 a6 a7 a8 a9 w : Nat) : ∀ d fuel j, j + d + 1 = cat n → d + 1 < fuel → fr_MO_findF_wanted x n a2 a3 a4 W a5 a6 a7 a8 a9 fuel i j 1 w (wB n j) = some (4294967295, w) := by
  have hc := cat_le h1 h2
  obtain ⟨hl, hF⟩ := hF n h1 h2
  intro d
  induction d with
  | zero =>
    intro fuel j hj hf
    obtain ⟨m, rfl⟩ : ∃ m, fuel = m + 1 + 1 := ⟨fuel - 2, by omega⟩
    have hjc : j < cat n := by omega
    obtain ⟨⟨⟨yj, ej⟩, hj1, hj2⟩, -⟩ := hF j hjc
    obtain ⟨B, hB⟩ := (w_all h1 h2 hjc).2.2.2 (by omega)
    rw [frs_MO_findF_wanted_13]
    unfold b_MO_findF_wanted_13
    rw [iEq_f (by omega) (by omega) (by omega), ej]
    simp only [Option.bind_some]
    rw [same_sw_eq, gs_f hl hl (by omega) hj2 hWk (hW j hjc)]
    simp only [Option.bind_some]
    rw [iEq_t, hB]
    simp only [Option.bind_some]
    rw [fz_eq, fz_eq, fz_eq, frs_MO_findF_wanted_13]
    unfold b_MO_findF_wanted_13
    rw [iEq_t]
  | succ d ih =>
    intro fuel j hj hf
    obtain ⟨m, rfl⟩ : ∃ m, fuel = m + 1 := ⟨fuel - 1, by omega⟩
    have hjc : j < cat n := by omega
    obtain ⟨⟨⟨yj, ej⟩, hj1, hj2⟩, -⟩ := hF j hjc
    rw [frs_MO_findF_wanted_13]
    unfold b_MO_findF_wanted_13
    rw [iEq_f (by omega) (by omega) (by omega), ej]
    simp only [Option.bind_some]
    rw [same_sw_eq, gs_f hl hl (by omega) hj2 hWk (hW j hjc)]
    simp only [Option.bind_some]
    rw [iEq_t, (w_all h1 h2 hjc).2.2.1 (by omega)]
    simp only [Option.bind_some]
    rw [fz_eq, fz_eq, fz_eq, iA_n (by omega)]
    exact ih m (j + 1) (by omega) (by omega)
theorem find_note {i : Nat} {len : Nat → Nat} (hF : FamR i len) {n k W : Nat} (h1 : 1 ≤ n) (h2 : n ≤ 9) (hk : k < cat n) (hW : ∀ t, t < len n → ag W t = ag (nN i n k) t) (w : Nat) : ∃ O, f_MO_findF_note i n w W 0 0 0 0 0 0 0 = some (k, O) ∧ sbO (wB n k) O := by
  have hc := cat_le h1 h2
  obtain ⟨O, hO, hi⟩ := gc_t (na := 18) (nb := 18) (A := wB n k) (m := 2 * n) (by omega) (by omega) (by omega) (w_kno h1 h2 hk) w
  refine ⟨O, ?_, w_top h1 h2 hk hi⟩
  unfold f_MO_findF_note e_MO_findF_note
  rw [(w_first h1 h2).1]
  exact find_note_hit hF h1 h2 hk hW i w 0 0 0 0 0 0 0 w (by rw [copy_tw_eq]; exact hO) k 1000000 0 (by omega) (by omega)
theorem find_noteX {i : Nat} {len : Nat → Nat} (hF : FamR i len) {n W : Nat} (h1 : 1 ≤ n) (h2 : n ≤ 9) (hWk : kno W (len n)) (hW : ∀ j, j < cat n → ∃ t, t < len n ∧ ag (nN i n j) t ≠ ag W t) (w : Nat) : f_MO_findF_note i n w W 0 0 0 0 0 0 0 = some (4294967295, w) := by
  have hc := cat_le h1 h2
  unfold f_MO_findF_note e_MO_findF_note
  rw [(w_first h1 h2).1]
  exact find_note_miss hF h1 h2 hWk hW i w 0 0 0 0 0 0 0 w (cat n - 1) 1000000 0 (by omega) (by omega)
theorem find_wanted {i : Nat} {len : Nat → Nat} (hF : FamR i len) {n k W : Nat} (h1 : 1 ≤ n) (h2 : n ≤ 9) (hk : k < cat n) (hW : ∀ t, t < len n → ag W t = ag (nN i n k) t) (w s : Nat) : ∃ O, f_MO_findF_wanted i n w 0 s W 0 0 0 0 0 = some (k, O) ∧ sbO (wB n k) O := by
  have hc := cat_le h1 h2
  obtain ⟨O, hO, hi⟩ := gc_t (na := 18) (nb := 18) (A := wB n k) (m := 2 * n) (by omega) (by omega) (by omega) (w_kno h1 h2 hk) w
  refine ⟨O, ?_, w_top h1 h2 hk hi⟩
  unfold f_MO_findF_wanted e_MO_findF_wanted
  rw [(w_first h1 h2).1]
  exact find_wanted_hit hF h1 h2 hk hW i w 0 s 0 0 0 0 0 w (by rw [copy_tw_eq]; exact hO) k 1000000 0 (by omega) (by omega)
theorem copy_k {n k : Nat} (h1 : 1 ≤ n) (h2 : n ≤ 9) (hk : k < cat n) (w : Nat) : ∃ O, f_MO_copy_tried_word (2 * n) w (wB n k) = some O ∧ sbO (wB n k) O := by
  obtain ⟨O, hO, hi⟩ := gc_t (na := 18) (nb := 18) (A := wB n k) (m := 2 * n) (by omega) (by omega) (by omega) (w_kno h1 h2 hk) w
  exact ⟨O, by rw [copy_tw_eq]; exact hO, w_top h1 h2 hk hi⟩
theorem find_wantedO {i : Nat} {len : Nat → Nat} (hF : FamR i len) {n k W O : Nat} (h1 : 1 ≤ n) (h2 : n ≤ 9) (hk : k < cat n) (hW : ∀ t, t < len n → ag W t = ag (nN i n k) t) (w s : Nat) (hO : f_MO_copy_tried_word (2 * n) w (wB n k) = some O) : f_MO_findF_wanted i n w 0 s W 0 0 0 0 0 = some (k, O) := by
  have hc := cat_le h1 h2
  unfold f_MO_findF_wanted e_MO_findF_wanted
  rw [(w_first h1 h2).1]
  exact find_wanted_hit hF h1 h2 hk hW i w 0 s 0 0 0 0 0 w hO k 1000000 0 (by omega) (by omega)
theorem mo_show {i m n k : Nat} (hi : i ≤ 5) (h : RefW i m n k) : ∃ y, ∀ c : Nat, f_MO_show i c n (wB n k) 0 0 0 0 0 0 = some (m, 0, nN i n k, y) := by
  obtain ⟨⟨y, e⟩, -⟩ := h
  refine ⟨y, fun c => ?_⟩
  unfold f_MO_show j_MO_show_15
  rw [iLt_f (by omega) (by omega) (by omega), iLt_f (by omega) (by omega) (by omega), iEq_t, weq_write_word_note, e]
  rfl
theorem facts_show0 (hA : AllA) : F_show0 wB wC cat := by
  intro n k h1 h2 hk
  obtain ⟨R, W, -⟩ := (a_all hA h1 h2 hk).2.1
  obtain ⟨y, hy⟩ := mo_show (by omega) R
  refine ⟨(2 * n, nN 0 n k), _, ?_, hy, rfl, rfl, fun t => rfl⟩
  · unfold f_CW_show0
    rw [show f_CW_isFamily 0 = some 1 by decide +kernel]
    simp only [Option.bind_some]
    rw [iEq_f (by omega) (by omega) (by omega), W]
    simp only [Option.bind_some]
    unfold f_WD_pairs f_BR_length
    simp only [Option.bind_some]
    rw [iM2 h2]
theorem facts_show1 (hA : AllA) : F_show1 wB wC cat := by
  intro n k h1 h2 hk
  obtain ⟨R, W, -⟩ := (a_all hA h1 h2 hk).2.2.1
  obtain ⟨y, hy⟩ := mo_show (by omega) R
  refine ⟨(2 * n, nN 1 n k), _, ?_, hy, rfl, rfl, fun t => rfl⟩
  · unfold f_CW_show1
    rw [show f_CW_isFamily 1 = some 1 by decide +kernel]
    simp only [Option.bind_some]
    rw [iEq_f (by omega) (by omega) (by omega), W]
    simp only [Option.bind_some]
    unfold f_WD_pairs f_BT_length
    simp only [Option.bind_some]
    rw [iM2 h2]
theorem facts_show2 (hA : AllA) : F_show2 wB wC cat := by
  intro n k h1 h2 hk
  obtain ⟨R, W, -⟩ := (a_all hA h1 h2 hk).2.2.2.1
  obtain ⟨y, hy⟩ := mo_show (by omega) R
  refine ⟨(n + 1, nN 2 n k), _, ?_, hy, rfl, rfl, fun t => rfl⟩
  · unfold f_CW_show2
    rw [show f_CW_isFamily 2 = some 1 by decide +kernel]
    simp only [Option.bind_some]
    rw [iEq_f (by omega) (by omega) (by omega), W]
    simp only [Option.bind_some]
    unfold f_WD_pairs f_PT_length
    simp only [Option.bind_some]
    rw [iA_n (by omega : n + 1 < 4294967296)]
theorem tr_zd (a b z d e f : Nat) : f_TR_write a b z d e f = f_TR_write a b 0 d e f := by
  have h1 : ∀ k, fr_TR_draw a b z d e k = fr_TR_draw a b 0 d e k := fun _ => rfl
  have h2 : f_TR_draw a b z d e = f_TR_draw a b 0 d e := by
    unfold f_TR_draw e_TR_draw
    rw [h1]
  have h3 : ∀ k, fr_TR_write a b z d e f k = fr_TR_write a b 0 d e f k := fun _ => rfl
  unfold f_TR_write e_TR_write
  rw [h2, h3]
theorem facts_show3 (hA : AllA) : F_show3 wB wC cat := by
  intro n k h1 h2 hk
  obtain ⟨R, ⟨a, W, ea⟩, -, -⟩ := (a_all hA h1 h2 hk).2.2.2.2.1
  obtain ⟨y, hy⟩ := mo_show (by omega) R
  refine ⟨(2 * n - 2, a.1, a.2.1, a.2.2.1, a.2.2.2), _, ?_, hy, rfl, rfl, fun t => by rw [← ea]⟩
  · intro zd
    unfold f_CW_show3
    rw [show f_CW_isFamily 3 = some 1 by decide +kernel]
    simp only [Option.bind_some]
    rw [iEq_f (by omega) (by omega) (by omega), tr_zd, W]
    simp only [Option.bind_some]
    unfold f_WD_pairs f_TR_length
    simp only [Option.bind_some]
    rw [iM2 h2, iS_n (by omega : 2 ≤ 2 * n) (by omega)]
theorem facts_show4 (hA : AllA) : F_show4 wB wC cat := by
  intro n k h1 h2 hk
  obtain ⟨R, ⟨a, W, ea⟩, -⟩ := (a_all hA h1 h2 hk).2.2.2.2.2.1
  obtain ⟨y, hy⟩ := mo_show (by omega) R
  refine ⟨(n, a.1, a.2), _, ?_, hy, rfl, rfl, fun t => by rw [← ea]⟩
  · unfold f_CW_show4
    rw [show f_CW_isFamily 4 = some 1 by decide +kernel]
    simp only [Option.bind_some]
    rw [iEq_f (by omega) (by omega) (by omega), W]
    simp only [Option.bind_some]
    unfold f_WD_pairs f_PA_length
    simp only [Option.bind_some]
theorem facts_show5 (hA : AllA) : F_show5 wB wC cat := by
  intro n k h1 h2 hk
  obtain ⟨R, W, -⟩ := (a_all hA h1 h2 hk).2.2.2.2.2.2
  obtain ⟨y, hy⟩ := mo_show (by omega) R
  refine ⟨(n, nN 5 n k), _, ?_, hy, rfl, rfl, fun t => rfl⟩
  · unfold f_CW_show5
    rw [show f_CW_isFamily 5 = some 1 by decide +kernel]
    simp only [Option.bind_some]
    rw [iEq_f (by omega) (by omega) (by omega), W]
    simp only [Option.bind_some]
    unfold f_WD_pairs f_PE_length
    simp only [Option.bind_some]
