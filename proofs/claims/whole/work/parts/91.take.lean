/-! take -/
theorem rd_tot0 {n N : Nat} (_h1 : 1 ≤ n) (h2 : n ≤ 9) (hN : kno N 20) : ∃ q, f_BR_read N c0 n = some q ∧ gd n 100 q := by
  unfold f_BR_read e_BR_read
  exact tot_BR h2 hN (2 * n) 1000000 0 0 c0 (by omega) (by omega) (by omega) (gd_c0 n)
theorem rd_tot1 {n N : Nat} (h1 : 1 ≤ n) (h2 : n ≤ 9) (hN : kno N 20) : ∃ q, f_BT_read 0 N c0 n = some q ∧ gd n 100 q.2 := by
  obtain ⟨E, e, hE⟩ := fill9_n h1 h2
  unfold f_BT_read e_BT_read f_WD_pairs
  simp only [ob_s]
  rw [e]
  simp only [ob_s]
  obtain ⟨E2, C2, e2, g⟩ := tot_BT (c := c0) (e0 := 0) h1 h2 hN n 1000000 0 E c0 (by omega) (by omega) (fun j hj => ⟨n, Nat.le_refl _, hE j hj⟩) (gd_c0 n)
  exact ⟨_, e2, g⟩
theorem rd_tot2 {n N : Nat} (h1 : 1 ≤ n) (h2 : n ≤ 9) (hN : kno N 20) : ∃ q, f_PT_read 0 N c0 n = some q ∧ gd n 100 q.2 := by
  unfold f_PT_read e_PT_read f_WD_pairs
  simp only [ob_s]
  obtain ⟨E2, C2, e2, g⟩ := tot_PT1 (c := c0) (e0 := 0) h1 h2 hN (gd_c0 n) (n + 1) 1000000 0 0 (by omega) (by omega) (fun j hj => by omega)
  exact ⟨_, e2, g⟩
theorem rd_tot3 {n N : Nat} (h1 : 1 ≤ n) (h2 : n ≤ 9) (hN : kno N 20) : ∃ q, f_TR_read 0 0 0 N c0 n = some q ∧ gd n 100 q.2.2.2 := by
  unfold f_TR_read e_TR_read f_WD_pairs
  simp only [ob_s]
  rw [fz_eq, iS_n (by omega) (by omega)]
  exact tot_TR h1 h2 hN (gd_c0 n) (n - 1) 1000000 0 0 0 (by omega) (by omega) (fun j hj => by omega)
theorem rd_tot4 {n N : Nat} (h1 : 1 ≤ n) (h2 : n ≤ 9) (hN : kno N 20) : ∃ q, f_PA_read 0 N c0 n = some q ∧ gd n 100 q.2 := by
  unfold f_PA_read e_PA_read f_WD_pairs
  simp only [ob_s]
  obtain ⟨E2, C2, e2, g⟩ := tot_PA1 (c := c0) (e0 := 0) h1 h2 hN (gd_c0 n) n 1000000 1 0 (by omega) (by omega) (by omega) (fun j => Or.inl (ag_0 j)) (fun m q1 q2 => by omega)
  exact ⟨_, e2, g⟩
theorem rd_tot5 {n N : Nat} (h1 : 1 ≤ n) (h2 : n ≤ 9) (hN : kno N 20) : ∃ q, f_PE_read 0 N c0 n = some q ∧ gd n 100 q.2 := by
  unfold f_PE_read e_PE_read f_WD_pairs
  simp only [ob_s]
  rw [fill_c0]
  simp only [ob_s]
  obtain ⟨E2, C2, e2, g⟩ := tot_PE1 (c := c0) (e0 := 0) h1 h2 hN (gd_c0 n) n 1000000 1 c0 (by omega) (by omega) (by omega) (fun j hj => by
    obtain ⟨v, hv, hr, -⟩ := (gd_c0 n).2 j hj
    exact ⟨v, by omega, hr⟩)
  exact ⟨_, e2, g⟩
theorem frz_TR_read (a b z N c n k : Nat) : fr_TR_read a b z N c n k = fr_TR_read a b 0 N c n k := rfl
theorem tr_rz (z N n : Nat) : f_TR_read 0 0 z N c0 n = f_TR_read 0 0 0 N c0 n := by
  unfold f_TR_read e_TR_read
  rw [frz_TR_read]
theorem ag_top {O m i : Nat} (h : O < 2 ^ (33 * m)) (hi : m ≤ i) : ag O i = 0 := by
  unfold ag
  rw [fz_eq, fz_eq]
  show (O >>> (33 * i)) % 8589934592 = 0
  rw [Nat.shiftRight_eq_div_pow, Nat.div_eq_of_lt (Nat.lt_of_lt_of_le h (Nat.pow_le_pow_right (by omega) (by omega)))]
theorem sb_of {i m n k N : Nat} (h : RefW i m n k) (hag : ∀ t, t < m → ag N t = ag (nN i n k) t) : sbO (nN i n k) N := fun t ht => by
  by_cases hm : t < m
  · exact hag t hm
  · exact absurd (ag_top h.2.1 (by omega)) ht
theorem kno_le {A m m2 : Nat} (h : kno A m) (hm : m2 ≤ m) : kno A m2 := fun i hi => h i (by omega)
theorem no_one {m n i N : Nat} (h : ¬ ∃ k, k < cat n ∧ ∀ t, t < m → ag N t = ag (nN i n k) t) : ∀ j, j < cat n → ∃ t, t < m ∧ ag (nN i n j) t ≠ ag N t := fun j hj => by
  apply Classical.byContradiction
  intro hn
  apply h
  refine ⟨j, hj, fun t ht => ?_⟩
  apply Classical.byContradiction
  intro h9
  exact hn ⟨t, ht, fun e => h9 e.symm⟩
theorem cmp0 {n z_t_paper z_t_trial z_t_wa_pairs z_t_wb_bits z_t_wb_closings z_t_wb_pairs y_t_trial y_t_wb_bits y_t_wb_closings : Nat} (h1 : 1 ≤ n) (h2 : n ≤ 9) (hN : kno z_t_paper (2 * n)) (hT : kno y_t_trial (2 * n)) : ∀ d fuel l2, l2 + d = 2 * n → d < fuel → ((∀ t, l2 ≤ t → t < 2 * n → ag z_t_paper t = ag y_t_trial t) → fr_CW_draftFromPaper0 z_t_paper z_t_trial z_t_wa_pairs z_t_wb_bits z_t_wb_closings z_t_wb_pairs fuel l2 y_t_trial y_t_wb_bits y_t_wb_closings n = some (1, y_t_trial, y_t_wb_bits, y_t_wb_closings, n)) ∧ ((∃ t, l2 ≤ t ∧ t < 2 * n ∧ ag z_t_paper t ≠ ag y_t_trial t) → fr_CW_draftFromPaper0 z_t_paper z_t_trial z_t_wa_pairs z_t_wb_bits z_t_wb_closings z_t_wb_pairs fuel l2 y_t_trial y_t_wb_bits y_t_wb_closings n = some (0, y_t_trial, y_t_wb_bits, y_t_wb_closings, n)) := by
  intro d
  induction d with
  | zero =>
    intro fuel l2 hl hf
    obtain ⟨m, rfl⟩ : ∃ m, fuel = m + 1 := ⟨fuel - 1, by omega⟩
    refine ⟨fun _ => ?_, fun ⟨t, q1, q2, _⟩ => by omega⟩
    rw [frs_CW_draftFromPaper0_52]
    unfold b_CW_draftFromPaper0_52 f_WD_pairs f_BR_length
    simp only [ob_s]
    rw [iM2 h2, iLt_f (by omega) (by omega) (by omega)]
  | succ d ih =>
    intro fuel l2 hl hf
    obtain ⟨m, rfl⟩ : ∃ m, fuel = m + 1 := ⟨fuel - 1, by omega⟩
    obtain ⟨i1, i2⟩ := ih m (l2 + 1) (by omega) (by omega)
    obtain ⟨v1, hv1, e1⟩ := hN l2 (by omega)
    obtain ⟨v2, hv2, e2⟩ := hT l2 (by omega)
    rw [frs_CW_draftFromPaper0_52]
    unfold b_CW_draftFromPaper0_52 f_WD_pairs f_BR_length
    simp only [ob_s]
    rw [iM2 h2, iLt_t (by omega) (by omega) (by omega), rd_k e1 (by omega), rd_k e2 (by omega)]
    by_cases hv : v1 = v2
    · subst hv
      rw [iEq_t, fz_eq, iA_n (by omega)]
      refine ⟨fun h => i1 (fun t q1 q2 => h t (by omega) q2), fun ⟨t, q1, q2, q3⟩ => i2 ⟨t, ?_, q2, q3⟩⟩
      by_cases ht : t = l2
      · subst ht
        rw [e1, e2] at q3
        exact absurd rfl q3
      · omega
    · rw [iEq_f hv1 hv2 hv]
      refine ⟨fun h => ?_, fun _ => rfl⟩
      have h5 := h l2 (Nat.le_refl _) (by omega)
      rw [e1, e2] at h5
      omega
theorem draft0 (hA : AllA) (hW : AllC) {n N : Nat} (h1 : 1 ≤ n) (h2 : n ≤ 9) (hN : kno N 20) : (∃ (k : Nat) (q : Nat × Nat × Nat × Nat), k < cat n ∧ (∀ t, t < 2 * n → ag N t = ag (nN 0 n k) t) ∧ (∀ pb : Nat, f_CW_draftFromPaper0 N 0 n 0 0 pb = some (1, q)) ∧ q.2.1 = wB n k ∧ q.2.2.1 = wC n k ∧ q.2.2.2 = n) ∨ ((∀ j, j < cat n → ∃ t, t < 2 * n ∧ ag (nN 0 n j) t ≠ ag N t) ∧ ∃ q : Nat × Nat × Nat × Nat, ∀ pb : Nat, f_CW_draftFromPaper0 N 0 n 0 0 pb = some (0, q)) := by
  by_cases hx : ∃ k, k < cat n ∧ ∀ t, t < 2 * n → ag N t = ag (nN 0 n k) t
  · obtain ⟨k, hk, hag⟩ := hx
    obtain ⟨R, W, Q⟩ := (a_all hA h1 h2 hk).2.1
    have hq := mono_BR_read (sb_of R hag) _ Q
    refine Or.inl ⟨k, (nN 0 n k, wB n k, wC n k, n), hk, hag, fun pb => ?_, rfl, rfl, rfl⟩
    unfold f_CW_draftFromPaper0 e_CW_draftFromPaper0 f_WD_pairs f_WD_begin
    simp only [ob_s]
    rw [fill_c0]
    simp only [ob_s]
    rw [hq]
    simp only [ob_s]
    rw [(a_all hA h1 h2 hk).1]
    simp only [ob_s]
    rw [iEq_f (by omega) (by omega) (by omega), W]
    simp only [ob_s, fz_eq]
    exact (cmp0 h1 h2 (kno_le hN (by omega)) R.2.2 (2 * n) 1000000 0 (by omega) (by omega)).1 (fun t _ q2 => hag t q2)
  · have hn := no_one hx
    refine Or.inr ⟨hn, ?_⟩
    obtain ⟨q, hq, g⟩ := rd_tot0 h1 h2 hN
    obtain ⟨f, B, eF, hF⟩ := fin_all hW h1 h2 g
    rcases hF with hF | ⟨hF, k, hk, eB, eC⟩
    · subst hF
      refine ⟨(0, B, q, n), fun pb => ?_⟩
      unfold f_CW_draftFromPaper0 e_CW_draftFromPaper0 f_WD_pairs f_WD_begin
      simp only [ob_s]
      rw [fill_c0]
      simp only [ob_s]
      rw [hq]
      simp only [ob_s]
      rw [eF]
      simp only [ob_s]
      rw [iEq_t]
    · subst hF eB
      obtain ⟨R, W, -⟩ := (a_all hA h1 h2 hk).2.1
      refine ⟨(nN 0 n k, wB n k, q, n), fun pb => ?_⟩
      unfold f_CW_draftFromPaper0 e_CW_draftFromPaper0 f_WD_pairs f_WD_begin
      simp only [ob_s]
      rw [fill_c0]
      simp only [ob_s]
      rw [hq]
      simp only [ob_s]
      rw [eF]
      simp only [ob_s]
      rw [iEq_f (by omega) (by omega) (by omega), W]
      simp only [ob_s, fz_eq]
      obtain ⟨t, t1, t2⟩ := hn k hk
      exact (cmp0 h1 h2 (kno_le hN (by omega)) R.2.2 (2 * n) 1000000 0 (by omega) (by omega)).2 ⟨t, Nat.zero_le _, t1, fun e => t2 e.symm⟩
theorem facts_take0 (hA : AllA) (hW : AllC) : F_take0 wB wC cat := by
  intro P n k h1 h2 hk
  have hN : kno (pkN P 20) 20 := fun t ht => ⟨xn (P t), xn_lt _, by rw [ag_pkN, if_pos ht]⟩
  have hc := cat_le h1 h2
  rcases draft0 hA hW h1 h2 hN with ⟨k2, q, hk2, hag, hd, eb, ec, ep⟩ | ⟨hn, q, hd⟩
  · obtain ⟨O, hO, hs⟩ := find_note (famR0 hA) h1 h2 hk2 hag 0
    refine Or.inl ⟨k2, (k2, q), (k2, 0, O), hk2, fun pb => ?_, by show sbO _ q.2.1; rw [eb]; exact sbO_rfl _, by show sbO _ q.2.2.1; rw [ec]; exact sbO_rfl _, ep, fun c => ?_, rfl, rfl, hs⟩
    · unfold f_CW_take0 f_CW_adoptDraft
      rw [show f_CW_isFamily 0 = some 1 by decide +kernel]
      simp only [ob_s]
      rw [iEq_f (by omega) (by omega) (by omega), hd]
      simp only [ob_s]
      rw [iEq_f (by omega) (by omega) (by omega), show f_RK_of q.2.1 q.2.2.2 = some k2 by rw [eb, ep]; exact (w_all h1 h2 hk2).2.1]
      rfl
    · unfold f_MO_takeF j_MO_takeF_15 j_MO_takeF_47
      rw [iLt_f (by omega) (by omega) (by omega), iLt_f (by omega) (by omega) (by omega), iLt_f (by omega) (by omega) (by omega), hO]
      simp only [ob_s]
      rw [iLt_f (by omega) (by omega) (by omega), fz_eq, fz_eq, iLt_f (by omega) (by omega) (by omega)]
  · have hO := find_noteX (famR0 hA) h1 h2 (kno_le hN (famR0 hA n h1 h2).1) hn (wB n k)
    refine Or.inr ⟨q, (0, 2, wB n k), fun pb => ?_, fun c => ?_, rfl, sbO_rfl _⟩
    · unfold f_CW_takeS0
      rw [show f_CW_isFamily 0 = some 1 by decide +kernel]
      simp only [ob_s]
      rw [iEq_f (by omega) (by omega) (by omega), hd]
      simp only [ob_s]
      rw [iEq_t]
    · unfold f_MO_takeF j_MO_takeF_15 j_MO_takeF_47
      rw [iLt_f (by omega) (by omega) (by omega), iLt_f (by omega) (by omega) (by omega), iLt_f (by omega) (by omega) (by omega), hO]
      simp only [ob_s]
      rw [iLt_big (by omega) (by omega) 0 (by omega), fz_eq, fz_eq, iLt_big (by omega) (by omega) 0 (by omega)]
theorem cmp1 {n z_t_paper z_t_trial z_t_fbt_ends z_t_wa_pairs z_t_wb_bits z_t_wb_closings z_t_wb_pairs y_t_trial y_t_fbt_ends y_t_wb_bits y_t_wb_closings : Nat} (h1 : 1 ≤ n) (h2 : n ≤ 9) (hN : kno z_t_paper (2 * n)) (hT : kno y_t_trial (2 * n)) : ∀ d fuel l2, l2 + d = 2 * n → d < fuel → ((∀ t, l2 ≤ t → t < 2 * n → ag z_t_paper t = ag y_t_trial t) → fr_CW_draftFromPaper1 z_t_paper z_t_trial z_t_fbt_ends z_t_wa_pairs z_t_wb_bits z_t_wb_closings z_t_wb_pairs fuel l2 y_t_trial y_t_fbt_ends y_t_wb_bits y_t_wb_closings n = some (1, y_t_trial, y_t_fbt_ends, y_t_wb_bits, y_t_wb_closings, n)) ∧ ((∃ t, l2 ≤ t ∧ t < 2 * n ∧ ag z_t_paper t ≠ ag y_t_trial t) → fr_CW_draftFromPaper1 z_t_paper z_t_trial z_t_fbt_ends z_t_wa_pairs z_t_wb_bits z_t_wb_closings z_t_wb_pairs fuel l2 y_t_trial y_t_fbt_ends y_t_wb_bits y_t_wb_closings n = some (0, y_t_trial, y_t_fbt_ends, y_t_wb_bits, y_t_wb_closings, n)) := by
  intro d
  induction d with
  | zero =>
    intro fuel l2 hl hf
    obtain ⟨m, rfl⟩ : ∃ m, fuel = m + 1 := ⟨fuel - 1, by omega⟩
    refine ⟨fun _ => ?_, fun ⟨t, q1, q2, _⟩ => by omega⟩
    rw [frs_CW_draftFromPaper1_52]
    unfold b_CW_draftFromPaper1_52 f_WD_pairs f_BT_length
    simp only [ob_s]
    rw [iM2 h2, iLt_f (by omega) (by omega) (by omega)]
  | succ d ih =>
    intro fuel l2 hl hf
    obtain ⟨m, rfl⟩ : ∃ m, fuel = m + 1 := ⟨fuel - 1, by omega⟩
    obtain ⟨i1, i2⟩ := ih m (l2 + 1) (by omega) (by omega)
    obtain ⟨v1, hv1, e1⟩ := hN l2 (by omega)
    obtain ⟨v2, hv2, e2⟩ := hT l2 (by omega)
    rw [frs_CW_draftFromPaper1_52]
    unfold b_CW_draftFromPaper1_52 f_WD_pairs f_BT_length
    simp only [ob_s]
    rw [iM2 h2, iLt_t (by omega) (by omega) (by omega), rd_k e1 (by omega), rd_k e2 (by omega)]
    by_cases hv : v1 = v2
    · subst hv
      rw [iEq_t, fz_eq, iA_n (by omega)]
      refine ⟨fun h => i1 (fun t q1 q2 => h t (by omega) q2), fun ⟨t, q1, q2, q3⟩ => i2 ⟨t, ?_, q2, q3⟩⟩
      by_cases ht : t = l2
      · subst ht
        rw [e1, e2] at q3
        exact absurd rfl q3
      · omega
    · rw [iEq_f hv1 hv2 hv]
      refine ⟨fun h => ?_, fun _ => rfl⟩
      have h5 := h l2 (Nat.le_refl _) (by omega)
      rw [e1, e2] at h5
      omega
theorem draft1 (hA : AllA) (hW : AllC) {n N : Nat} (h1 : 1 ≤ n) (h2 : n ≤ 9) (hN : kno N 20) : (∃ (k : Nat) (q : Nat × Nat × Nat × Nat × Nat), k < cat n ∧ (∀ t, t < 2 * n → ag N t = ag (nN 1 n k) t) ∧ (∀ pb : Nat, f_CW_draftFromPaper1 N 0 0 n 0 0 pb = some (1, q)) ∧ q.2.2.1 = wB n k ∧ q.2.2.2.1 = wC n k ∧ q.2.2.2.2 = n) ∨ ((∀ j, j < cat n → ∃ t, t < 2 * n ∧ ag (nN 1 n j) t ≠ ag N t) ∧ ∃ q : Nat × Nat × Nat × Nat × Nat, ∀ pb : Nat, f_CW_draftFromPaper1 N 0 0 n 0 0 pb = some (0, q)) := by
  by_cases hx : ∃ k, k < cat n ∧ ∀ t, t < 2 * n → ag N t = ag (nN 1 n k) t
  · obtain ⟨k, hk, hag⟩ := hx
    obtain ⟨R, W, q, Q, eq⟩ := (a_all hA h1 h2 hk).2.2.1
    have hq := mono_BT_read (sb_of R hag) _ Q
    refine Or.inl ⟨k, (nN 1 n k, q.1, wB n k, wC n k, n), hk, hag, fun pb => ?_, rfl, rfl, rfl⟩
    unfold f_CW_draftFromPaper1 e_CW_draftFromPaper1 f_WD_pairs f_WD_begin
    simp only [ob_s]
    rw [fill_c0]
    simp only [ob_s]
    rw [hq]
    simp only [ob_s]
    rw [eq, (a_all hA h1 h2 hk).1]
    simp only [ob_s]
    rw [iEq_f (by omega) (by omega) (by omega), W]
    simp only [ob_s, fz_eq]
    exact (cmp1 h1 h2 (kno_le hN (by omega)) R.2.2 (2 * n) 1000000 0 (by omega) (by omega)).1 (fun t _ q2 => hag t q2)
  · have hn := no_one hx
    refine Or.inr ⟨hn, ?_⟩
    obtain ⟨q, hq, g⟩ := rd_tot1 h1 h2 hN
    obtain ⟨f, B, eF, hF⟩ := fin_all hW h1 h2 g
    rcases hF with hF | ⟨hF, k, hk, eB, eC⟩
    · subst hF
      refine ⟨(0, q.1, B, q.2, n), fun pb => ?_⟩
      unfold f_CW_draftFromPaper1 e_CW_draftFromPaper1 f_WD_pairs f_WD_begin
      simp only [ob_s]
      rw [fill_c0]
      simp only [ob_s]
      rw [hq]
      simp only [ob_s]
      rw [eF]
      simp only [ob_s]
      rw [iEq_t]
    · subst hF eB
      obtain ⟨R, W, -⟩ := (a_all hA h1 h2 hk).2.2.1
      refine ⟨(nN 1 n k, q.1, wB n k, q.2, n), fun pb => ?_⟩
      unfold f_CW_draftFromPaper1 e_CW_draftFromPaper1 f_WD_pairs f_WD_begin
      simp only [ob_s]
      rw [fill_c0]
      simp only [ob_s]
      rw [hq]
      simp only [ob_s]
      rw [eF]
      simp only [ob_s]
      rw [iEq_f (by omega) (by omega) (by omega), W]
      simp only [ob_s, fz_eq]
      obtain ⟨t, t1, t2⟩ := hn k hk
      exact (cmp1 h1 h2 (kno_le hN (by omega)) R.2.2 (2 * n) 1000000 0 (by omega) (by omega)).2 ⟨t, Nat.zero_le _, t1, fun e => t2 e.symm⟩
theorem facts_take1 (hA : AllA) (hW : AllC) : F_take1 wB wC cat := by
  intro P n k h1 h2 hk
  have hN : kno (pkN P 20) 20 := fun t ht => ⟨xn (P t), xn_lt _, by rw [ag_pkN, if_pos ht]⟩
  have hc := cat_le h1 h2
  rcases draft1 hA hW h1 h2 hN with ⟨k2, q, hk2, hag, hd, eb, ec, ep⟩ | ⟨hn, q, hd⟩
  · obtain ⟨O, hO, hs⟩ := find_note (famR1 hA) h1 h2 hk2 hag 0
    refine Or.inl ⟨k2, (k2, q), (k2, 0, O), hk2, fun pb => ?_, by show sbO _ q.2.2.1; rw [eb]; exact sbO_rfl _, by show sbO _ q.2.2.2.1; rw [ec]; exact sbO_rfl _, ep, fun c => ?_, rfl, rfl, hs⟩
    · unfold f_CW_take1 f_CW_adoptDraft
      rw [show f_CW_isFamily 1 = some 1 by decide +kernel]
      simp only [ob_s]
      rw [iEq_f (by omega) (by omega) (by omega), hd]
      simp only [ob_s]
      rw [iEq_f (by omega) (by omega) (by omega), show f_RK_of q.2.2.1 q.2.2.2.2 = some k2 by rw [eb, ep]; exact (w_all h1 h2 hk2).2.1]
      rfl
    · unfold f_MO_takeF j_MO_takeF_15 j_MO_takeF_47
      rw [iLt_f (by omega) (by omega) (by omega), iLt_f (by omega) (by omega) (by omega), iLt_f (by omega) (by omega) (by omega), hO]
      simp only [ob_s]
      rw [iLt_f (by omega) (by omega) (by omega), fz_eq, fz_eq, iLt_f (by omega) (by omega) (by omega)]
  · have hO := find_noteX (famR1 hA) h1 h2 (kno_le hN (famR1 hA n h1 h2).1) hn (wB n k)
    refine Or.inr ⟨q, (0, 2, wB n k), fun pb => ?_, fun c => ?_, rfl, sbO_rfl _⟩
    · unfold f_CW_takeS1
      rw [show f_CW_isFamily 1 = some 1 by decide +kernel]
      simp only [ob_s]
      rw [iEq_f (by omega) (by omega) (by omega), hd]
      simp only [ob_s]
      rw [iEq_t]
    · unfold f_MO_takeF j_MO_takeF_15 j_MO_takeF_47
      rw [iLt_f (by omega) (by omega) (by omega), iLt_f (by omega) (by omega) (by omega), iLt_f (by omega) (by omega) (by omega), hO]
      simp only [ob_s]
      rw [iLt_big (by omega) (by omega) 0 (by omega), fz_eq, fz_eq, iLt_big (by omega) (by omega) 0 (by omega)]
theorem cmp2 {n z_t_paper z_t_trial z_t_fpt_lasts z_t_wa_pairs z_t_wb_bits z_t_wb_closings z_t_wb_pairs y_t_trial y_t_fpt_lasts y_t_wb_bits y_t_wb_closings : Nat} (h1 : 1 ≤ n) (h2 : n ≤ 9) (hN : kno z_t_paper (n + 1)) (hT : kno y_t_trial (n + 1)) : ∀ d fuel l2, l2 + d = n + 1 → d < fuel → ((∀ t, l2 ≤ t → t < n + 1 → ag z_t_paper t = ag y_t_trial t) → fr_CW_draftFromPaper2 z_t_paper z_t_trial z_t_fpt_lasts z_t_wa_pairs z_t_wb_bits z_t_wb_closings z_t_wb_pairs fuel l2 y_t_trial y_t_fpt_lasts y_t_wb_bits y_t_wb_closings n = some (1, y_t_trial, y_t_fpt_lasts, y_t_wb_bits, y_t_wb_closings, n)) ∧ ((∃ t, l2 ≤ t ∧ t < n + 1 ∧ ag z_t_paper t ≠ ag y_t_trial t) → fr_CW_draftFromPaper2 z_t_paper z_t_trial z_t_fpt_lasts z_t_wa_pairs z_t_wb_bits z_t_wb_closings z_t_wb_pairs fuel l2 y_t_trial y_t_fpt_lasts y_t_wb_bits y_t_wb_closings n = some (0, y_t_trial, y_t_fpt_lasts, y_t_wb_bits, y_t_wb_closings, n)) := by
  intro d
  induction d with
  | zero =>
    intro fuel l2 hl hf
    obtain ⟨m, rfl⟩ : ∃ m, fuel = m + 1 := ⟨fuel - 1, by omega⟩
    refine ⟨fun _ => ?_, fun ⟨t, q1, q2, _⟩ => by omega⟩
    rw [frs_CW_draftFromPaper2_52]
    unfold b_CW_draftFromPaper2_52 f_WD_pairs f_PT_length
    simp only [ob_s]
    rw [iA_n (by omega : n + 1 < 4294967296), iLt_f (by omega) (by omega) (by omega)]
  | succ d ih =>
    intro fuel l2 hl hf
    obtain ⟨m, rfl⟩ : ∃ m, fuel = m + 1 := ⟨fuel - 1, by omega⟩
    obtain ⟨i1, i2⟩ := ih m (l2 + 1) (by omega) (by omega)
    obtain ⟨v1, hv1, e1⟩ := hN l2 (by omega)
    obtain ⟨v2, hv2, e2⟩ := hT l2 (by omega)
    rw [frs_CW_draftFromPaper2_52]
    unfold b_CW_draftFromPaper2_52 f_WD_pairs f_PT_length
    simp only [ob_s]
    rw [iA_n (by omega : n + 1 < 4294967296), iLt_t (by omega) (by omega) (by omega), rd_k e1 (by omega), rd_k e2 (by omega)]
    by_cases hv : v1 = v2
    · subst hv
      rw [iEq_t, fz_eq, iA_n (by omega)]
      refine ⟨fun h => i1 (fun t q1 q2 => h t (by omega) q2), fun ⟨t, q1, q2, q3⟩ => i2 ⟨t, ?_, q2, q3⟩⟩
      by_cases ht : t = l2
      · subst ht
        rw [e1, e2] at q3
        exact absurd rfl q3
      · omega
    · rw [iEq_f hv1 hv2 hv]
      refine ⟨fun h => ?_, fun _ => rfl⟩
      have h5 := h l2 (Nat.le_refl _) (by omega)
      rw [e1, e2] at h5
      omega
theorem draft2 (hA : AllA) (hW : AllC) {n N : Nat} (h1 : 1 ≤ n) (h2 : n ≤ 9) (hN : kno N 20) : (∃ (k : Nat) (q : Nat × Nat × Nat × Nat × Nat), k < cat n ∧ (∀ t, t < n + 1 → ag N t = ag (nN 2 n k) t) ∧ (∀ pb : Nat, f_CW_draftFromPaper2 N 0 0 n 0 0 pb = some (1, q)) ∧ q.2.2.1 = wB n k ∧ q.2.2.2.1 = wC n k ∧ q.2.2.2.2 = n) ∨ ((∀ j, j < cat n → ∃ t, t < n + 1 ∧ ag (nN 2 n j) t ≠ ag N t) ∧ ∃ q : Nat × Nat × Nat × Nat × Nat, ∀ pb : Nat, f_CW_draftFromPaper2 N 0 0 n 0 0 pb = some (0, q)) := by
  by_cases hx : ∃ k, k < cat n ∧ ∀ t, t < n + 1 → ag N t = ag (nN 2 n k) t
  · obtain ⟨k, hk, hag⟩ := hx
    obtain ⟨R, W, q, Q, eq⟩ := (a_all hA h1 h2 hk).2.2.2.1
    have hq := mono_PT_read (sb_of R hag) _ Q
    refine Or.inl ⟨k, (nN 2 n k, q.1, wB n k, wC n k, n), hk, hag, fun pb => ?_, rfl, rfl, rfl⟩
    unfold f_CW_draftFromPaper2 e_CW_draftFromPaper2 f_WD_pairs f_WD_begin
    simp only [ob_s]
    rw [fill_c0]
    simp only [ob_s]
    rw [hq]
    simp only [ob_s]
    rw [eq, (a_all hA h1 h2 hk).1]
    simp only [ob_s]
    rw [iEq_f (by omega) (by omega) (by omega), W]
    simp only [ob_s, fz_eq]
    exact (cmp2 h1 h2 (kno_le hN (by omega)) R.2.2 (n + 1) 1000000 0 (by omega) (by omega)).1 (fun t _ q2 => hag t q2)
  · have hn := no_one hx
    refine Or.inr ⟨hn, ?_⟩
    obtain ⟨q, hq, g⟩ := rd_tot2 h1 h2 hN
    obtain ⟨f, B, eF, hF⟩ := fin_all hW h1 h2 g
    rcases hF with hF | ⟨hF, k, hk, eB, eC⟩
    · subst hF
      refine ⟨(0, q.1, B, q.2, n), fun pb => ?_⟩
      unfold f_CW_draftFromPaper2 e_CW_draftFromPaper2 f_WD_pairs f_WD_begin
      simp only [ob_s]
      rw [fill_c0]
      simp only [ob_s]
      rw [hq]
      simp only [ob_s]
      rw [eF]
      simp only [ob_s]
      rw [iEq_t]
    · subst hF eB
      obtain ⟨R, W, -⟩ := (a_all hA h1 h2 hk).2.2.2.1
      refine ⟨(nN 2 n k, q.1, wB n k, q.2, n), fun pb => ?_⟩
      unfold f_CW_draftFromPaper2 e_CW_draftFromPaper2 f_WD_pairs f_WD_begin
      simp only [ob_s]
      rw [fill_c0]
      simp only [ob_s]
      rw [hq]
      simp only [ob_s]
      rw [eF]
      simp only [ob_s]
      rw [iEq_f (by omega) (by omega) (by omega), W]
      simp only [ob_s, fz_eq]
      obtain ⟨t, t1, t2⟩ := hn k hk
      exact (cmp2 h1 h2 (kno_le hN (by omega)) R.2.2 (n + 1) 1000000 0 (by omega) (by omega)).2 ⟨t, Nat.zero_le _, t1, fun e => t2 e.symm⟩
theorem facts_take2 (hA : AllA) (hW : AllC) : F_take2 wB wC cat := by
  intro P n k h1 h2 hk
  have hN : kno (pkN P 20) 20 := fun t ht => ⟨xn (P t), xn_lt _, by rw [ag_pkN, if_pos ht]⟩
  have hc := cat_le h1 h2
  rcases draft2 hA hW h1 h2 hN with ⟨k2, q, hk2, hag, hd, eb, ec, ep⟩ | ⟨hn, q, hd⟩
  · obtain ⟨O, hO, hs⟩ := find_note (famR2 hA) h1 h2 hk2 hag 0
    refine Or.inl ⟨k2, (k2, q), (k2, 0, O), hk2, fun pb => ?_, by show sbO _ q.2.2.1; rw [eb]; exact sbO_rfl _, by show sbO _ q.2.2.2.1; rw [ec]; exact sbO_rfl _, ep, fun c => ?_, rfl, rfl, hs⟩
    · unfold f_CW_take2 f_CW_adoptDraft
      rw [show f_CW_isFamily 2 = some 1 by decide +kernel]
      simp only [ob_s]
      rw [iEq_f (by omega) (by omega) (by omega), hd]
      simp only [ob_s]
      rw [iEq_f (by omega) (by omega) (by omega), show f_RK_of q.2.2.1 q.2.2.2.2 = some k2 by rw [eb, ep]; exact (w_all h1 h2 hk2).2.1]
      rfl
    · unfold f_MO_takeF j_MO_takeF_15 j_MO_takeF_47
      rw [iLt_f (by omega) (by omega) (by omega), iLt_f (by omega) (by omega) (by omega), iLt_f (by omega) (by omega) (by omega), hO]
      simp only [ob_s]
      rw [iLt_f (by omega) (by omega) (by omega), fz_eq, fz_eq, iLt_f (by omega) (by omega) (by omega)]
  · have hO := find_noteX (famR2 hA) h1 h2 (kno_le hN (famR2 hA n h1 h2).1) hn (wB n k)
    refine Or.inr ⟨q, (0, 2, wB n k), fun pb => ?_, fun c => ?_, rfl, sbO_rfl _⟩
    · unfold f_CW_takeS2
      rw [show f_CW_isFamily 2 = some 1 by decide +kernel]
      simp only [ob_s]
      rw [iEq_f (by omega) (by omega) (by omega), hd]
      simp only [ob_s]
      rw [iEq_t]
    · unfold f_MO_takeF j_MO_takeF_15 j_MO_takeF_47
      rw [iLt_f (by omega) (by omega) (by omega), iLt_f (by omega) (by omega) (by omega), iLt_f (by omega) (by omega) (by omega), hO]
      simp only [ob_s]
      rw [iLt_big (by omega) (by omega) 0 (by omega), fz_eq, fz_eq, iLt_big (by omega) (by omega) 0 (by omega)]
theorem cmp3 {n z_t_triangulations_lows z_t_triangulations_highs z_t_triangulations_diagonals z_t_paper z_t_trial z_t_wa_pairs z_t_wb_bits z_t_wb_closings z_t_wb_pairs y_t_triangulations_lows y_t_triangulations_highs y_t_triangulations_diagonals y_t_trial y_t_wb_bits y_t_wb_closings : Nat} (h1 : 1 ≤ n) (h2 : n ≤ 9) (hN : kno z_t_paper (2 * n - 2)) (hT : kno y_t_trial (2 * n - 2)) : ∀ d fuel l2, l2 + d = 2 * n - 2 → d < fuel → ((∀ t, l2 ≤ t → t < 2 * n - 2 → ag z_t_paper t = ag y_t_trial t) → fr_CW_draftFromPaper3 z_t_triangulations_lows z_t_triangulations_highs z_t_triangulations_diagonals z_t_paper z_t_trial z_t_wa_pairs z_t_wb_bits z_t_wb_closings z_t_wb_pairs fuel l2 y_t_triangulations_lows y_t_triangulations_highs y_t_triangulations_diagonals y_t_trial y_t_wb_bits y_t_wb_closings n = some (1, y_t_triangulations_lows, y_t_triangulations_highs, y_t_triangulations_diagonals, y_t_trial, y_t_wb_bits, y_t_wb_closings, n)) ∧ ((∃ t, l2 ≤ t ∧ t < 2 * n - 2 ∧ ag z_t_paper t ≠ ag y_t_trial t) → fr_CW_draftFromPaper3 z_t_triangulations_lows z_t_triangulations_highs z_t_triangulations_diagonals z_t_paper z_t_trial z_t_wa_pairs z_t_wb_bits z_t_wb_closings z_t_wb_pairs fuel l2 y_t_triangulations_lows y_t_triangulations_highs y_t_triangulations_diagonals y_t_trial y_t_wb_bits y_t_wb_closings n = some (0, y_t_triangulations_lows, y_t_triangulations_highs, y_t_triangulations_diagonals, y_t_trial, y_t_wb_bits, y_t_wb_closings, n)) := by
  intro d
  induction d with
  | zero =>
    intro fuel l2 hl hf
    obtain ⟨m, rfl⟩ : ∃ m, fuel = m + 1 := ⟨fuel - 1, by omega⟩
    refine ⟨fun _ => ?_, fun ⟨t, q1, q2, _⟩ => by omega⟩
    rw [frs_CW_draftFromPaper3_52]
    unfold b_CW_draftFromPaper3_52 f_WD_pairs f_TR_length
    simp only [ob_s]
    rw [iM2 h2, iS_n (by omega : 2 ≤ 2 * n) (by omega), iLt_f (by omega) (by omega) (by omega)]
  | succ d ih =>
    intro fuel l2 hl hf
    obtain ⟨m, rfl⟩ : ∃ m, fuel = m + 1 := ⟨fuel - 1, by omega⟩
    obtain ⟨i1, i2⟩ := ih m (l2 + 1) (by omega) (by omega)
    obtain ⟨v1, hv1, e1⟩ := hN l2 (by omega)
    obtain ⟨v2, hv2, e2⟩ := hT l2 (by omega)
    rw [frs_CW_draftFromPaper3_52]
    unfold b_CW_draftFromPaper3_52 f_WD_pairs f_TR_length
    simp only [ob_s]
    rw [iM2 h2, iS_n (by omega : 2 ≤ 2 * n) (by omega), iLt_t (by omega) (by omega) (by omega), rd_k e1 (by omega), rd_k e2 (by omega)]
    by_cases hv : v1 = v2
    · subst hv
      rw [iEq_t, fz_eq, iA_n (by omega)]
      refine ⟨fun h => i1 (fun t q1 q2 => h t (by omega) q2), fun ⟨t, q1, q2, q3⟩ => i2 ⟨t, ?_, q2, q3⟩⟩
      by_cases ht : t = l2
      · subst ht
        rw [e1, e2] at q3
        exact absurd rfl q3
      · omega
    · rw [iEq_f hv1 hv2 hv]
      refine ⟨fun h => ?_, fun _ => rfl⟩
      have h5 := h l2 (Nat.le_refl _) (by omega)
      rw [e1, e2] at h5
      omega
theorem draft3 (hA : AllA) (hW : AllC) {n N : Nat} (h1 : 1 ≤ n) (h2 : n ≤ 9) (hN : kno N 20) : (∃ (k : Nat) (q : Nat × Nat × Nat × Nat × Nat × Nat × Nat), k < cat n ∧ (∀ t, t < 2 * n - 2 → ag N t = ag (nN 3 n k) t) ∧ (∀ zd pb : Nat, f_CW_draftFromPaper3 0 0 zd N 0 n 0 0 pb = some (1, q)) ∧ q.2.2.2.2.1 = wB n k ∧ q.2.2.2.2.2.1 = wC n k ∧ q.2.2.2.2.2.2 = n) ∨ ((∀ j, j < cat n → ∃ t, t < 2 * n - 2 ∧ ag (nN 3 n j) t ≠ ag N t) ∧ ∃ q : Nat × Nat × Nat × Nat × Nat × Nat × Nat, ∀ zd pb : Nat, f_CW_draftFromPaper3 0 0 zd N 0 n 0 0 pb = some (0, q)) := by
  by_cases hx : ∃ k, k < cat n ∧ ∀ t, t < 2 * n - 2 → ag N t = ag (nN 3 n k) t
  · obtain ⟨k, hk, hag⟩ := hx
    obtain ⟨R, W, ⟨q, Q, eq⟩, -⟩ := (a_all hA h1 h2 hk).2.2.2.2.1
    have hq := mono_TR_read (sb_of R hag) _ Q
    obtain ⟨a, W, ea⟩ := tr_any (L := q.1) (H := q.2.1) (z := q.2.2.1) W
    refine Or.inl ⟨k, (a.1, a.2.1, a.2.2.1, a.2.2.2, wB n k, wC n k, n), hk, hag, fun zd pb => ?_, rfl, rfl, rfl⟩
    unfold f_CW_draftFromPaper3 e_CW_draftFromPaper3 f_WD_pairs f_WD_begin
    simp only [ob_s]
    rw [fill_c0]
    simp only [ob_s]
    rw [tr_rz, hq]
    simp only [ob_s]
    rw [eq, (a_all hA h1 h2 hk).1]
    simp only [ob_s]
    rw [iEq_f (by omega) (by omega) (by omega), W]
    simp only [ob_s, fz_eq]
    exact (cmp3 h1 h2 (kno_le hN (by omega)) (by rw [ea]; exact R.2.2) (2 * n - 2) 1000000 0 (by omega) (by omega)).1 (fun t _ q2 => by rw [ea]; exact hag t q2)
  · have hn := no_one hx
    refine Or.inr ⟨hn, ?_⟩
    obtain ⟨q, hq, g⟩ := rd_tot3 h1 h2 hN
    obtain ⟨f, B, eF, hF⟩ := fin_all hW h1 h2 g
    rcases hF with hF | ⟨hF, k, hk, eB, eC⟩
    · subst hF
      refine ⟨(q.1, q.2.1, q.2.2.1, 0, B, q.2.2.2, n), fun zd pb => ?_⟩
      unfold f_CW_draftFromPaper3 e_CW_draftFromPaper3 f_WD_pairs f_WD_begin
      simp only [ob_s]
      rw [fill_c0]
      simp only [ob_s]
      rw [tr_rz, hq]
      simp only [ob_s]
      rw [eF]
      simp only [ob_s]
      rw [iEq_t]
    · subst hF eB
      obtain ⟨R, W, -⟩ := (a_all hA h1 h2 hk).2.2.2.2.1
      obtain ⟨a, W, ea⟩ := tr_any (L := q.1) (H := q.2.1) (z := q.2.2.1) W
      refine ⟨(a.1, a.2.1, a.2.2.1, a.2.2.2, wB n k, q.2.2.2, n), fun zd pb => ?_⟩
      unfold f_CW_draftFromPaper3 e_CW_draftFromPaper3 f_WD_pairs f_WD_begin
      simp only [ob_s]
      rw [fill_c0]
      simp only [ob_s]
      rw [tr_rz, hq]
      simp only [ob_s]
      rw [eF]
      simp only [ob_s]
      rw [iEq_f (by omega) (by omega) (by omega), W]
      simp only [ob_s, fz_eq]
      obtain ⟨t, t1, t2⟩ := hn k hk
      exact (cmp3 h1 h2 (kno_le hN (by omega)) (by rw [ea]; exact R.2.2) (2 * n - 2) 1000000 0 (by omega) (by omega)).2 ⟨t, Nat.zero_le _, t1, fun e => t2 (by rw [e, ea])⟩
theorem facts_take3 (hA : AllA) (hW : AllC) : F_take3 wB wC cat := by
  intro P n k h1 h2 hk
  have hN : kno (pkN P 20) 20 := fun t ht => ⟨xn (P t), xn_lt _, by rw [ag_pkN, if_pos ht]⟩
  have hc := cat_le h1 h2
  rcases draft3 hA hW h1 h2 hN with ⟨k2, q, hk2, hag, hd, eb, ec, ep⟩ | ⟨hn, q, hd⟩
  · obtain ⟨O, hO, hs⟩ := find_note (famR3 hA) h1 h2 hk2 hag 0
    refine Or.inl ⟨k2, (k2, q), (k2, 0, O), hk2, fun zd pb => ?_, by show sbO _ q.2.2.2.2.1; rw [eb]; exact sbO_rfl _, by show sbO _ q.2.2.2.2.2.1; rw [ec]; exact sbO_rfl _, ep, fun c => ?_, rfl, rfl, hs⟩
    · unfold f_CW_take3 f_CW_adoptDraft
      rw [show f_CW_isFamily 3 = some 1 by decide +kernel]
      simp only [ob_s]
      rw [iEq_f (by omega) (by omega) (by omega), hd]
      simp only [ob_s]
      rw [iEq_f (by omega) (by omega) (by omega), show f_RK_of q.2.2.2.2.1 q.2.2.2.2.2.2 = some k2 by rw [eb, ep]; exact (w_all h1 h2 hk2).2.1]
      rfl
    · unfold f_MO_takeF j_MO_takeF_15 j_MO_takeF_47
      rw [iLt_f (by omega) (by omega) (by omega), iLt_f (by omega) (by omega) (by omega), iLt_f (by omega) (by omega) (by omega), hO]
      simp only [ob_s]
      rw [iLt_f (by omega) (by omega) (by omega), fz_eq, fz_eq, iLt_f (by omega) (by omega) (by omega)]
  · have hO := find_noteX (famR3 hA) h1 h2 (kno_le hN (famR3 hA n h1 h2).1) hn (wB n k)
    refine Or.inr ⟨q, (0, 2, wB n k), fun zd pb => ?_, fun c => ?_, rfl, sbO_rfl _⟩
    · unfold f_CW_takeS3
      rw [show f_CW_isFamily 3 = some 1 by decide +kernel]
      simp only [ob_s]
      rw [iEq_f (by omega) (by omega) (by omega), hd]
      simp only [ob_s]
      rw [iEq_t]
    · unfold f_MO_takeF j_MO_takeF_15 j_MO_takeF_47
      rw [iLt_f (by omega) (by omega) (by omega), iLt_f (by omega) (by omega) (by omega), iLt_f (by omega) (by omega) (by omega), hO]
      simp only [ob_s]
      rw [iLt_big (by omega) (by omega) 0 (by omega), fz_eq, fz_eq, iLt_big (by omega) (by omega) 0 (by omega)]
theorem cmp4 {n z_t_partitions_pile z_t_partitions_greatests z_t_paper z_t_trial z_t_wa_pairs z_t_wb_bits z_t_wb_closings z_t_wb_pairs y_t_partitions_pile y_t_partitions_greatests y_t_trial y_t_wb_bits y_t_wb_closings : Nat} (h1 : 1 ≤ n) (h2 : n ≤ 9) (hN : kno z_t_paper (n)) (hT : kno y_t_trial (n)) : ∀ d fuel l2, l2 + d = n → d < fuel → ((∀ t, l2 ≤ t → t < n → ag z_t_paper t = ag y_t_trial t) → fr_CW_draftFromPaper4 z_t_partitions_pile z_t_partitions_greatests z_t_paper z_t_trial z_t_wa_pairs z_t_wb_bits z_t_wb_closings z_t_wb_pairs fuel l2 y_t_partitions_pile y_t_partitions_greatests y_t_trial y_t_wb_bits y_t_wb_closings n = some (1, y_t_partitions_pile, y_t_partitions_greatests, y_t_trial, y_t_wb_bits, y_t_wb_closings, n)) ∧ ((∃ t, l2 ≤ t ∧ t < n ∧ ag z_t_paper t ≠ ag y_t_trial t) → fr_CW_draftFromPaper4 z_t_partitions_pile z_t_partitions_greatests z_t_paper z_t_trial z_t_wa_pairs z_t_wb_bits z_t_wb_closings z_t_wb_pairs fuel l2 y_t_partitions_pile y_t_partitions_greatests y_t_trial y_t_wb_bits y_t_wb_closings n = some (0, y_t_partitions_pile, y_t_partitions_greatests, y_t_trial, y_t_wb_bits, y_t_wb_closings, n)) := by
  intro d
  induction d with
  | zero =>
    intro fuel l2 hl hf
    obtain ⟨m, rfl⟩ : ∃ m, fuel = m + 1 := ⟨fuel - 1, by omega⟩
    refine ⟨fun _ => ?_, fun ⟨t, q1, q2, _⟩ => by omega⟩
    rw [frs_CW_draftFromPaper4_52]
    unfold b_CW_draftFromPaper4_52 f_WD_pairs f_PA_length
    simp only [ob_s]
    rw [iLt_f (by omega) (by omega) (by omega)]
  | succ d ih =>
    intro fuel l2 hl hf
    obtain ⟨m, rfl⟩ : ∃ m, fuel = m + 1 := ⟨fuel - 1, by omega⟩
    obtain ⟨i1, i2⟩ := ih m (l2 + 1) (by omega) (by omega)
    obtain ⟨v1, hv1, e1⟩ := hN l2 (by omega)
    obtain ⟨v2, hv2, e2⟩ := hT l2 (by omega)
    rw [frs_CW_draftFromPaper4_52]
    unfold b_CW_draftFromPaper4_52 f_WD_pairs f_PA_length
    simp only [ob_s]
    rw [iLt_t (by omega) (by omega) (by omega), rd_k e1 (by omega), rd_k e2 (by omega)]
    by_cases hv : v1 = v2
    · subst hv
      rw [iEq_t, fz_eq, iA_n (by omega)]
      refine ⟨fun h => i1 (fun t q1 q2 => h t (by omega) q2), fun ⟨t, q1, q2, q3⟩ => i2 ⟨t, ?_, q2, q3⟩⟩
      by_cases ht : t = l2
      · subst ht
        rw [e1, e2] at q3
        exact absurd rfl q3
      · omega
    · rw [iEq_f hv1 hv2 hv]
      refine ⟨fun h => ?_, fun _ => rfl⟩
      have h5 := h l2 (Nat.le_refl _) (by omega)
      rw [e1, e2] at h5
      omega
theorem draft4 (hA : AllA) (hW : AllC) {n N : Nat} (h1 : 1 ≤ n) (h2 : n ≤ 9) (hN : kno N 20) : (∃ (k : Nat) (q : Nat × Nat × Nat × Nat × Nat × Nat), k < cat n ∧ (∀ t, t < n → ag N t = ag (nN 4 n k) t) ∧ (∀ pb : Nat, f_CW_draftFromPaper4 0 0 N 0 n 0 0 pb = some (1, q)) ∧ q.2.2.2.1 = wB n k ∧ q.2.2.2.2.1 = wC n k ∧ q.2.2.2.2.2 = n) ∨ ((∀ j, j < cat n → ∃ t, t < n ∧ ag (nN 4 n j) t ≠ ag N t) ∧ ∃ q : Nat × Nat × Nat × Nat × Nat × Nat, ∀ pb : Nat, f_CW_draftFromPaper4 0 0 N 0 n 0 0 pb = some (0, q)) := by
  by_cases hx : ∃ k, k < cat n ∧ ∀ t, t < n → ag N t = ag (nN 4 n k) t
  · obtain ⟨k, hk, hag⟩ := hx
    obtain ⟨R, W, q, Q, eq⟩ := (a_all hA h1 h2 hk).2.2.2.2.2.1
    have hq := mono_PA_read (sb_of R hag) _ Q
    obtain ⟨a, W, ea⟩ := W
    refine Or.inl ⟨k, (a.1, q.1, a.2, wB n k, wC n k, n), hk, hag, fun pb => ?_, rfl, rfl, rfl⟩
    unfold f_CW_draftFromPaper4 e_CW_draftFromPaper4 f_WD_pairs f_WD_begin
    simp only [ob_s]
    rw [fill_c0]
    simp only [ob_s]
    rw [hq]
    simp only [ob_s]
    rw [eq, (a_all hA h1 h2 hk).1]
    simp only [ob_s]
    rw [iEq_f (by omega) (by omega) (by omega), W]
    simp only [ob_s, fz_eq]
    exact (cmp4 h1 h2 (kno_le hN (by omega)) (by rw [ea]; exact R.2.2) (n) 1000000 0 (by omega) (by omega)).1 (fun t _ q2 => by rw [ea]; exact hag t q2)
  · have hn := no_one hx
    refine Or.inr ⟨hn, ?_⟩
    obtain ⟨q, hq, g⟩ := rd_tot4 h1 h2 hN
    obtain ⟨f, B, eF, hF⟩ := fin_all hW h1 h2 g
    rcases hF with hF | ⟨hF, k, hk, eB, eC⟩
    · subst hF
      refine ⟨(0, q.1, 0, B, q.2, n), fun pb => ?_⟩
      unfold f_CW_draftFromPaper4 e_CW_draftFromPaper4 f_WD_pairs f_WD_begin
      simp only [ob_s]
      rw [fill_c0]
      simp only [ob_s]
      rw [hq]
      simp only [ob_s]
      rw [eF]
      simp only [ob_s]
      rw [iEq_t]
    · subst hF eB
      obtain ⟨R, W, -⟩ := (a_all hA h1 h2 hk).2.2.2.2.2.1
      obtain ⟨a, W, ea⟩ := W
      refine ⟨(a.1, q.1, a.2, wB n k, wC n k, n), fun pb => ?_⟩
      unfold f_CW_draftFromPaper4 e_CW_draftFromPaper4 f_WD_pairs f_WD_begin
      simp only [ob_s]
      rw [fill_c0]
      simp only [ob_s]
      rw [hq]
      simp only [ob_s]
      rw [eF]
      simp only [ob_s]
      rw [iEq_f (by omega) (by omega) (by omega), eC, W]
      simp only [ob_s, fz_eq]
      obtain ⟨t, t1, t2⟩ := hn k hk
      exact (cmp4 h1 h2 (kno_le hN (by omega)) (by rw [ea]; exact R.2.2) (n) 1000000 0 (by omega) (by omega)).2 ⟨t, Nat.zero_le _, t1, fun e => t2 (by rw [e, ea])⟩
theorem facts_take4 (hA : AllA) (hW : AllC) : F_take4 wB wC cat := by
  intro P n k h1 h2 hk
  have hN : kno (pkN P 20) 20 := fun t ht => ⟨xn (P t), xn_lt _, by rw [ag_pkN, if_pos ht]⟩
  have hc := cat_le h1 h2
  rcases draft4 hA hW h1 h2 hN with ⟨k2, q, hk2, hag, hd, eb, ec, ep⟩ | ⟨hn, q, hd⟩
  · obtain ⟨O, hO, hs⟩ := find_note (famR4 hA) h1 h2 hk2 hag 0
    refine Or.inl ⟨k2, (k2, q), (k2, 0, O), hk2, fun pb => ?_, by show sbO _ q.2.2.2.1; rw [eb]; exact sbO_rfl _, by show sbO _ q.2.2.2.2.1; rw [ec]; exact sbO_rfl _, ep, fun c => ?_, rfl, rfl, hs⟩
    · unfold f_CW_take4 f_CW_adoptDraft
      rw [show f_CW_isFamily 4 = some 1 by decide +kernel]
      simp only [ob_s]
      rw [iEq_f (by omega) (by omega) (by omega), hd]
      simp only [ob_s]
      rw [iEq_f (by omega) (by omega) (by omega), show f_RK_of q.2.2.2.1 q.2.2.2.2.2 = some k2 by rw [eb, ep]; exact (w_all h1 h2 hk2).2.1]
      rfl
    · unfold f_MO_takeF j_MO_takeF_15 j_MO_takeF_47
      rw [iLt_f (by omega) (by omega) (by omega), iLt_f (by omega) (by omega) (by omega), iLt_f (by omega) (by omega) (by omega), hO]
      simp only [ob_s]
      rw [iLt_f (by omega) (by omega) (by omega), fz_eq, fz_eq, iLt_f (by omega) (by omega) (by omega)]
  · have hO := find_noteX (famR4 hA) h1 h2 (kno_le hN (famR4 hA n h1 h2).1) hn (wB n k)
    refine Or.inr ⟨q, (0, 2, wB n k), fun pb => ?_, fun c => ?_, rfl, sbO_rfl _⟩
    · unfold f_CW_takeS4
      rw [show f_CW_isFamily 4 = some 1 by decide +kernel]
      simp only [ob_s]
      rw [iEq_f (by omega) (by omega) (by omega), hd]
      simp only [ob_s]
      rw [iEq_t]
    · unfold f_MO_takeF j_MO_takeF_15 j_MO_takeF_47
      rw [iLt_f (by omega) (by omega) (by omega), iLt_f (by omega) (by omega) (by omega), iLt_f (by omega) (by omega) (by omega), hO]
      simp only [ob_s]
      rw [iLt_big (by omega) (by omega) 0 (by omega), fz_eq, fz_eq, iLt_big (by omega) (by omega) 0 (by omega)]
theorem cmp5 {n z_t_paper z_t_trial z_t_fpe_openers z_t_wa_pairs z_t_wb_bits z_t_wb_closings z_t_wb_pairs y_t_trial y_t_fpe_openers y_t_wb_bits y_t_wb_closings : Nat} (h1 : 1 ≤ n) (h2 : n ≤ 9) (hN : kno z_t_paper (n)) (hT : kno y_t_trial (n)) : ∀ d fuel l2, l2 + d = n → d < fuel → ((∀ t, l2 ≤ t → t < n → ag z_t_paper t = ag y_t_trial t) → fr_CW_draftFromPaper5 z_t_paper z_t_trial z_t_fpe_openers z_t_wa_pairs z_t_wb_bits z_t_wb_closings z_t_wb_pairs fuel l2 y_t_trial y_t_fpe_openers y_t_wb_bits y_t_wb_closings n = some (1, y_t_trial, y_t_fpe_openers, y_t_wb_bits, y_t_wb_closings, n)) ∧ ((∃ t, l2 ≤ t ∧ t < n ∧ ag z_t_paper t ≠ ag y_t_trial t) → fr_CW_draftFromPaper5 z_t_paper z_t_trial z_t_fpe_openers z_t_wa_pairs z_t_wb_bits z_t_wb_closings z_t_wb_pairs fuel l2 y_t_trial y_t_fpe_openers y_t_wb_bits y_t_wb_closings n = some (0, y_t_trial, y_t_fpe_openers, y_t_wb_bits, y_t_wb_closings, n)) := by
  intro d
  induction d with
  | zero =>
    intro fuel l2 hl hf
    obtain ⟨m, rfl⟩ : ∃ m, fuel = m + 1 := ⟨fuel - 1, by omega⟩
    refine ⟨fun _ => ?_, fun ⟨t, q1, q2, _⟩ => by omega⟩
    rw [frs_CW_draftFromPaper5_52]
    unfold b_CW_draftFromPaper5_52 f_WD_pairs f_PE_length
    simp only [ob_s]
    rw [iLt_f (by omega) (by omega) (by omega)]
  | succ d ih =>
    intro fuel l2 hl hf
    obtain ⟨m, rfl⟩ : ∃ m, fuel = m + 1 := ⟨fuel - 1, by omega⟩
    obtain ⟨i1, i2⟩ := ih m (l2 + 1) (by omega) (by omega)
    obtain ⟨v1, hv1, e1⟩ := hN l2 (by omega)
    obtain ⟨v2, hv2, e2⟩ := hT l2 (by omega)
    rw [frs_CW_draftFromPaper5_52]
    unfold b_CW_draftFromPaper5_52 f_WD_pairs f_PE_length
    simp only [ob_s]
    rw [iLt_t (by omega) (by omega) (by omega), rd_k e1 (by omega), rd_k e2 (by omega)]
    by_cases hv : v1 = v2
    · subst hv
      rw [iEq_t, fz_eq, iA_n (by omega)]
      refine ⟨fun h => i1 (fun t q1 q2 => h t (by omega) q2), fun ⟨t, q1, q2, q3⟩ => i2 ⟨t, ?_, q2, q3⟩⟩
      by_cases ht : t = l2
      · subst ht
        rw [e1, e2] at q3
        exact absurd rfl q3
      · omega
    · rw [iEq_f hv1 hv2 hv]
      refine ⟨fun h => ?_, fun _ => rfl⟩
      have h5 := h l2 (Nat.le_refl _) (by omega)
      rw [e1, e2] at h5
      omega
theorem draft5 (hA : AllA) (hW : AllC) {n N : Nat} (h1 : 1 ≤ n) (h2 : n ≤ 9) (hN : kno N 20) : (∃ (k : Nat) (q : Nat × Nat × Nat × Nat × Nat), k < cat n ∧ (∀ t, t < n → ag N t = ag (nN 5 n k) t) ∧ (∀ pb : Nat, f_CW_draftFromPaper5 N 0 0 n 0 0 pb = some (1, q)) ∧ q.2.2.1 = wB n k ∧ q.2.2.2.1 = wC n k ∧ q.2.2.2.2 = n) ∨ ((∀ j, j < cat n → ∃ t, t < n ∧ ag (nN 5 n j) t ≠ ag N t) ∧ ∃ q : Nat × Nat × Nat × Nat × Nat, ∀ pb : Nat, f_CW_draftFromPaper5 N 0 0 n 0 0 pb = some (0, q)) := by
  by_cases hx : ∃ k, k < cat n ∧ ∀ t, t < n → ag N t = ag (nN 5 n k) t
  · obtain ⟨k, hk, hag⟩ := hx
    obtain ⟨R, W, q, Q, eq⟩ := (a_all hA h1 h2 hk).2.2.2.2.2.2
    have hq := mono_PE_read (sb_of R hag) _ Q
    refine Or.inl ⟨k, (nN 5 n k, q.1, wB n k, wC n k, n), hk, hag, fun pb => ?_, rfl, rfl, rfl⟩
    unfold f_CW_draftFromPaper5 e_CW_draftFromPaper5 f_WD_pairs f_WD_begin
    simp only [ob_s]
    rw [fill_c0]
    simp only [ob_s]
    rw [hq]
    simp only [ob_s]
    rw [eq, (a_all hA h1 h2 hk).1]
    simp only [ob_s]
    rw [iEq_f (by omega) (by omega) (by omega), W]
    simp only [ob_s, fz_eq]
    exact (cmp5 h1 h2 (kno_le hN (by omega)) R.2.2 (n) 1000000 0 (by omega) (by omega)).1 (fun t _ q2 => hag t q2)
  · have hn := no_one hx
    refine Or.inr ⟨hn, ?_⟩
    obtain ⟨q, hq, g⟩ := rd_tot5 h1 h2 hN
    obtain ⟨f, B, eF, hF⟩ := fin_all hW h1 h2 g
    rcases hF with hF | ⟨hF, k, hk, eB, eC⟩
    · subst hF
      refine ⟨(0, q.1, B, q.2, n), fun pb => ?_⟩
      unfold f_CW_draftFromPaper5 e_CW_draftFromPaper5 f_WD_pairs f_WD_begin
      simp only [ob_s]
      rw [fill_c0]
      simp only [ob_s]
      rw [hq]
      simp only [ob_s]
      rw [eF]
      simp only [ob_s]
      rw [iEq_t]
    · subst hF eB
      obtain ⟨R, W, -⟩ := (a_all hA h1 h2 hk).2.2.2.2.2.2
      refine ⟨(nN 5 n k, q.1, wB n k, q.2, n), fun pb => ?_⟩
      unfold f_CW_draftFromPaper5 e_CW_draftFromPaper5 f_WD_pairs f_WD_begin
      simp only [ob_s]
      rw [fill_c0]
      simp only [ob_s]
      rw [hq]
      simp only [ob_s]
      rw [eF]
      simp only [ob_s]
      rw [iEq_f (by omega) (by omega) (by omega), W]
      simp only [ob_s, fz_eq]
      obtain ⟨t, t1, t2⟩ := hn k hk
      exact (cmp5 h1 h2 (kno_le hN (by omega)) R.2.2 (n) 1000000 0 (by omega) (by omega)).2 ⟨t, Nat.zero_le _, t1, fun e => t2 e.symm⟩
theorem facts_take5 (hA : AllA) (hW : AllC) : F_take5 wB wC cat := by
  intro P n k h1 h2 hk
  have hN : kno (pkN P 20) 20 := fun t ht => ⟨xn (P t), xn_lt _, by rw [ag_pkN, if_pos ht]⟩
  have hc := cat_le h1 h2
  rcases draft5 hA hW h1 h2 hN with ⟨k2, q, hk2, hag, hd, eb, ec, ep⟩ | ⟨hn, q, hd⟩
  · obtain ⟨O, hO, hs⟩ := find_note (famR5 hA) h1 h2 hk2 hag 0
    refine Or.inl ⟨k2, (k2, q), (k2, 0, O), hk2, fun pb => ?_, by show sbO _ q.2.2.1; rw [eb]; exact sbO_rfl _, by show sbO _ q.2.2.2.1; rw [ec]; exact sbO_rfl _, ep, fun c => ?_, rfl, rfl, hs⟩
    · unfold f_CW_take5 f_CW_adoptDraft
      rw [show f_CW_isFamily 5 = some 1 by decide +kernel]
      simp only [ob_s]
      rw [iEq_f (by omega) (by omega) (by omega), hd]
      simp only [ob_s]
      rw [iEq_f (by omega) (by omega) (by omega), show f_RK_of q.2.2.1 q.2.2.2.2 = some k2 by rw [eb, ep]; exact (w_all h1 h2 hk2).2.1]
      rfl
    · unfold f_MO_takeF j_MO_takeF_15 j_MO_takeF_47
      rw [iLt_f (by omega) (by omega) (by omega), iLt_f (by omega) (by omega) (by omega), iLt_f (by omega) (by omega) (by omega), hO]
      simp only [ob_s]
      rw [iLt_f (by omega) (by omega) (by omega), fz_eq, fz_eq, iLt_f (by omega) (by omega) (by omega)]
  · have hO := find_noteX (famR5 hA) h1 h2 (kno_le hN (famR5 hA n h1 h2).1) hn (wB n k)
    refine Or.inr ⟨q, (0, 2, wB n k), fun pb => ?_, fun c => ?_, rfl, sbO_rfl _⟩
    · unfold f_CW_takeS5
      rw [show f_CW_isFamily 5 = some 1 by decide +kernel]
      simp only [ob_s]
      rw [iEq_f (by omega) (by omega) (by omega), hd]
      simp only [ob_s]
      rw [iEq_t]
    · unfold f_MO_takeF j_MO_takeF_15 j_MO_takeF_47
      rw [iLt_f (by omega) (by omega) (by omega), iLt_f (by omega) (by omega) (by omega), iLt_f (by omega) (by omega) (by omega), hO]
      simp only [ob_s]
      rw [iLt_big (by omega) (by omega) 0 (by omega), fz_eq, fz_eq, iLt_big (by omega) (by omega) 0 (by omega)]
