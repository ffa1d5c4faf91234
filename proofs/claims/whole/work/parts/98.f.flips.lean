/-! flips -/
theorem initq1 (zd : Nat) : ∃ q, f_FG1_init 0 0 zd = some q ∧ q.1 = LK1 := by
  unfold f_FG1_init e_FG1_init
  show ∃ q, fr_FG1_init 0 0 zd (999997 + 1 + 1 + 1) 0 1 0 0 0 0 zd 0 0 0 0 0 0 0 = some q ∧ q.1 = LK1
  rw [frs_FG1_init_76]
  unfold b_FG1_init_76
  rw [iLt_t (by omega) (by omega) (by omega), (w_all (n := 1) (k := 0) (by omega) (by omega) (by decide)).1, ob_s]
  simp only [fz_eq]
  rw [frs_FG1_init_97]
  unfold b_FG1_init_97
  rw [iLt_f (by omega) (by omega) (by omega), fz_eq, iA_n (by omega), frs_FG1_init_76]
  unfold b_FG1_init_76
  rw [iLt_f (by omega) (by omega) (by omega)]
  exact ⟨_, rfl, rfl⟩
theorem facts_flips1 : F_flips1b wB cat LKt := by
  intro k x hk hx
  have hk : k < 1 := hk
  have hx : x < 1 := hx
  obtain ⟨⟨S2, Q2, hd⟩, hfin⟩ := cw_dist1 fill1 ff1 uD1 hk hx
  obtain ⟨t, ht, t1, t2⟩ := mo_flips (n := 1) (W := 1) (L := 0) (by omega) (by omega) rfl sets1 list1 ff1 hk hx (by omega) hfin
  have hir : f_CW_isRank x 1 = some 1 := by
    rw [cw_isRank (by omega) (by omega) (by omega), if_pos (show x < cat 1 from hx)]
  have hof : f_RK_of (wB 1 k) 1 = some k := (w_all (n := 1) (by omega) (by omega) (show k < cat 1 from hk)).2.1
  generalize ag (FdN 1 1 (aw FF1 k 0) 0) x - 1 = v at hd t1
  refine ⟨v, (v, S2, Q2), t, ?_, rfl, fun zd => ?_, ht, t1, t2⟩
  · unfold f_CW_flipsP1
    rw [iLt_f (by omega) (by omega) (by omega), hir, ob_s, iEq_f (by omega) (by omega) (by omega), hof, ob_s, show LKt 1 = LK1 from rfl, hd, ob_s]
  · obtain ⟨q, hq, q1⟩ := initq1 zd
    refine ⟨(v, q.2.1, q.2.2.1, q.2.2.2.1, q.1, S2, Q2), ?_, rfl, ?_⟩
    · unfold f_CW_flipsA1
      rw [iLt_f (by omega) (by omega) (by omega), hir, ob_s, iEq_f (by omega) (by omega) (by omega), hq, ob_s, hof, ob_s, q1, hd, ob_s]
    · show sbO (LKt 1) q.1
      rw [q1]
      exact sbO_rfl _
theorem iz97_2 (k l1 l6 lk lo hi zd b c p b4 c4 p4 : Nat) : fr_FG2_init 0 0 0 (k + 1) 1 l1 l6 0 lk lo hi zd b c p b4 c4 p4 = fr_FG2_init 0 0 0 (k + 1) 1 l1 l6 0 lk lo hi 0 b c p b4 c4 p4 := by
  rw [frs_FG2_init_97, frs_FG2_init_97]
  unfold b_FG2_init_97
  rw [iLt_t (by omega) (by omega) (by omega), iLt_t (by omega) (by omega) (by omega), tr_dz lo hi zd]
theorem izf_2 (zd k : Nat) : fr_FG2_init 0 0 zd k = fr_FG2_init 0 0 0 k := rfl
theorem iz_2 (zd : Nat) : f_FG2_init 0 0 zd = f_FG2_init 0 0 0 := by
  unfold f_FG2_init e_FG2_init
  rw [izf_2]
  show fr_FG2_init 0 0 0 (999998 + 1 + 1) 0 2 0 0 0 0 zd 0 0 0 0 0 0 0 = fr_FG2_init 0 0 0 (999998 + 1 + 1) 0 2 0 0 0 0 0 0 0 0 0 0 0 0
  rw [frs_FG2_init_76, frs_FG2_init_76]
  unfold b_FG2_init_76
  rw [iLt_t (by omega) (by omega) (by omega), iLt_t (by omega) (by omega) (by omega), (w_all (n := 2) (k := 0) (by omega) (by omega) (by decide)).1, ob_s, ob_s]
  simp only [fz_eq]
  exact iz97_2 _ _ _ _ _ _ zd _ _ _ _ _ _
theorem initq2 : ∃ q, (∀ zd, f_FG2_init 0 0 zd = some q) ∧ q.1 = LK2 := by
  obtain ⟨q, e, h⟩ := oB_t init2
  exact ⟨q, fun zd => by rw [iz_2]; exact e, Nat.eq_of_beq_eq_true h⟩
theorem facts_flips2 : F_flips2 wB cat LKt := by
  intro k x hk hx
  have hk : k < 2 := hk
  have hx : x < 2 := hx
  obtain ⟨⟨S2, Q2, hd⟩, hfin⟩ := cw_dist2 fill2 ff2 uD2 hk hx
  obtain ⟨t, ht, t1, t2⟩ := mo_flips (n := 2) (W := 2) (L := 1) (by omega) (by omega) rfl sets2 list2 ff2 hk hx (by omega) hfin
  obtain ⟨q, hq, q1⟩ := initq2
  have hir : f_CW_isRank x 2 = some 1 := by
    rw [cw_isRank (by omega) (by omega) (by omega), if_pos (show x < cat 2 from hx)]
  have hof : f_RK_of (wB 2 k) 2 = some k := (w_all (n := 2) (by omega) (by omega) (show k < cat 2 from hk)).2.1
  generalize ag (FdN 2 2 (aw FF2 k 0) 1) x - 1 = v at hd t1
  refine ⟨v, (v, S2, Q2), (v, q.2.1, q.2.2.1, q.2.2.2.1, q.1, S2, Q2), t, ?_, rfl, fun zd => ?_, rfl, ?_, ht, t1, t2⟩
  · unfold f_CW_flipsP2
    rw [iLt_f (by omega) (by omega) (by omega), hir, ob_s, iEq_f (by omega) (by omega) (by omega), hof, ob_s, show LKt 2 = LK2 from rfl, hd, ob_s]
  · unfold f_CW_flipsA2
    rw [iLt_f (by omega) (by omega) (by omega), hir, ob_s, iEq_f (by omega) (by omega) (by omega), hq zd, ob_s, hof, ob_s, q1, hd, ob_s]
  · show sbO (LKt 2) q.1
    rw [q1]
    exact sbO_rfl _
theorem iz97_3 (k l1 l6 lk lo hi zd b c p b4 c4 p4 : Nat) : fr_FG3_init 0 0 0 (k + 1) 1 l1 l6 0 lk lo hi zd b c p b4 c4 p4 = fr_FG3_init 0 0 0 (k + 1) 1 l1 l6 0 lk lo hi 0 b c p b4 c4 p4 := by
  rw [frs_FG3_init_97, frs_FG3_init_97]
  unfold b_FG3_init_97
  rw [iLt_t (by omega) (by omega) (by omega), iLt_t (by omega) (by omega) (by omega), tr_dz lo hi zd]
theorem izf_3 (zd k : Nat) : fr_FG3_init 0 0 zd k = fr_FG3_init 0 0 0 k := rfl
theorem iz_3 (zd : Nat) : f_FG3_init 0 0 zd = f_FG3_init 0 0 0 := by
  unfold f_FG3_init e_FG3_init
  rw [izf_3]
  show fr_FG3_init 0 0 0 (999998 + 1 + 1) 0 3 0 0 0 0 zd 0 0 0 0 0 0 0 = fr_FG3_init 0 0 0 (999998 + 1 + 1) 0 3 0 0 0 0 0 0 0 0 0 0 0 0
  rw [frs_FG3_init_76, frs_FG3_init_76]
  unfold b_FG3_init_76
  rw [iLt_t (by omega) (by omega) (by omega), iLt_t (by omega) (by omega) (by omega), (w_all (n := 3) (k := 0) (by omega) (by omega) (by decide)).1, ob_s, ob_s]
  simp only [fz_eq]
  exact iz97_3 _ _ _ _ _ _ zd _ _ _ _ _ _
theorem initq3 : ∃ q, (∀ zd, f_FG3_init 0 0 zd = some q) ∧ q.1 = LK3 := by
  obtain ⟨q, e, h⟩ := oB_t init3
  exact ⟨q, fun zd => by rw [iz_3]; exact e, Nat.eq_of_beq_eq_true h⟩
theorem facts_flips3 : F_flips3 wB cat LKt := by
  intro k x hk hx
  have hk : k < 5 := hk
  have hx : x < 5 := hx
  obtain ⟨⟨S2, Q2, hd⟩, hfin⟩ := cw_dist3 fill3 ff3 uD3 hk hx
  obtain ⟨t, ht, t1, t2⟩ := mo_flips (n := 3) (W := 5) (L := 2) (by omega) (by omega) rfl sets3 list3 ff3 hk hx (by omega) hfin
  obtain ⟨q, hq, q1⟩ := initq3
  have hir : f_CW_isRank x 3 = some 1 := by
    rw [cw_isRank (by omega) (by omega) (by omega), if_pos (show x < cat 3 from hx)]
  have hof : f_RK_of (wB 3 k) 3 = some k := (w_all (n := 3) (by omega) (by omega) (show k < cat 3 from hk)).2.1
  generalize ag (FdN 3 5 (aw FF3 k 0) 2) x - 1 = v at hd t1
  refine ⟨v, (v, S2, Q2), (v, q.2.1, q.2.2.1, q.2.2.2.1, q.1, S2, Q2), t, ?_, rfl, fun zd => ?_, rfl, ?_, ht, t1, t2⟩
  · unfold f_CW_flipsP3
    rw [iLt_f (by omega) (by omega) (by omega), hir, ob_s, iEq_f (by omega) (by omega) (by omega), hof, ob_s, show LKt 3 = LK3 from rfl, hd, ob_s]
  · unfold f_CW_flipsA3
    rw [iLt_f (by omega) (by omega) (by omega), hir, ob_s, iEq_f (by omega) (by omega) (by omega), hq zd, ob_s, hof, ob_s, q1, hd, ob_s]
  · show sbO (LKt 3) q.1
    rw [q1]
    exact sbO_rfl _
theorem iz97_4 (k l1 l6 lk lo hi zd b c p b4 c4 p4 : Nat) : fr_FG4_init 0 0 0 (k + 1) 1 l1 l6 0 lk lo hi zd b c p b4 c4 p4 = fr_FG4_init 0 0 0 (k + 1) 1 l1 l6 0 lk lo hi 0 b c p b4 c4 p4 := by
  rw [frs_FG4_init_97, frs_FG4_init_97]
  unfold b_FG4_init_97
  rw [iLt_t (by omega) (by omega) (by omega), iLt_t (by omega) (by omega) (by omega), tr_dz lo hi zd]
theorem izf_4 (zd k : Nat) : fr_FG4_init 0 0 zd k = fr_FG4_init 0 0 0 k := rfl
theorem iz_4 (zd : Nat) : f_FG4_init 0 0 zd = f_FG4_init 0 0 0 := by
  unfold f_FG4_init e_FG4_init
  rw [izf_4]
  show fr_FG4_init 0 0 0 (999998 + 1 + 1) 0 4 0 0 0 0 zd 0 0 0 0 0 0 0 = fr_FG4_init 0 0 0 (999998 + 1 + 1) 0 4 0 0 0 0 0 0 0 0 0 0 0 0
  rw [frs_FG4_init_76, frs_FG4_init_76]
  unfold b_FG4_init_76
  rw [iLt_t (by omega) (by omega) (by omega), iLt_t (by omega) (by omega) (by omega), (w_all (n := 4) (k := 0) (by omega) (by omega) (by decide)).1, ob_s, ob_s]
  simp only [fz_eq]
  exact iz97_4 _ _ _ _ _ _ zd _ _ _ _ _ _
theorem initq4 : ∃ q, (∀ zd, f_FG4_init 0 0 zd = some q) ∧ q.1 = LK4 := by
  obtain ⟨q, e, h⟩ := oB_t init4
  exact ⟨q, fun zd => by rw [iz_4]; exact e, Nat.eq_of_beq_eq_true h⟩
theorem facts_flips4 : F_flips4 wB cat LKt := by
  intro k x hk hx
  have hk : k < 14 := hk
  have hx : x < 14 := hx
  obtain ⟨⟨S2, Q2, hd⟩, hfin⟩ := cw_dist4 fill4 ff4 uD4 hk hx
  obtain ⟨t, ht, t1, t2⟩ := mo_flips (n := 4) (W := 14) (L := 4) (by omega) (by omega) rfl sets4 list4 ff4 hk hx (by omega) hfin
  obtain ⟨q, hq, q1⟩ := initq4
  have hir : f_CW_isRank x 4 = some 1 := by
    rw [cw_isRank (by omega) (by omega) (by omega), if_pos (show x < cat 4 from hx)]
  have hof : f_RK_of (wB 4 k) 4 = some k := (w_all (n := 4) (by omega) (by omega) (show k < cat 4 from hk)).2.1
  generalize ag (FdN 4 14 (aw FF4 k 0) 4) x - 1 = v at hd t1
  refine ⟨v, (v, S2, Q2), (v, q.2.1, q.2.2.1, q.2.2.2.1, q.1, S2, Q2), t, ?_, rfl, fun zd => ?_, rfl, ?_, ht, t1, t2⟩
  · unfold f_CW_flipsP4
    rw [iLt_f (by omega) (by omega) (by omega), hir, ob_s, iEq_f (by omega) (by omega) (by omega), hof, ob_s, show LKt 4 = LK4 from rfl, hd, ob_s]
  · unfold f_CW_flipsA4
    rw [iLt_f (by omega) (by omega) (by omega), hir, ob_s, iEq_f (by omega) (by omega) (by omega), hq zd, ob_s, hof, ob_s, q1, hd, ob_s]
  · show sbO (LKt 4) q.1
    rw [q1]
    exact sbO_rfl _
theorem iz97_5 (k l1 l6 lk lo hi zd b c p b4 c4 p4 : Nat) : fr_FG5_init 0 0 0 (k + 1) 1 l1 l6 0 lk lo hi zd b c p b4 c4 p4 = fr_FG5_init 0 0 0 (k + 1) 1 l1 l6 0 lk lo hi 0 b c p b4 c4 p4 := by
  rw [frs_FG5_init_97, frs_FG5_init_97]
  unfold b_FG5_init_97
  rw [iLt_t (by omega) (by omega) (by omega), iLt_t (by omega) (by omega) (by omega), tr_dz lo hi zd]
theorem izf_5 (zd k : Nat) : fr_FG5_init 0 0 zd k = fr_FG5_init 0 0 0 k := rfl
theorem iz_5 (zd : Nat) : f_FG5_init 0 0 zd = f_FG5_init 0 0 0 := by
  unfold f_FG5_init e_FG5_init
  rw [izf_5]
  show fr_FG5_init 0 0 0 (999998 + 1 + 1) 0 5 0 0 0 0 zd 0 0 0 0 0 0 0 = fr_FG5_init 0 0 0 (999998 + 1 + 1) 0 5 0 0 0 0 0 0 0 0 0 0 0 0
  rw [frs_FG5_init_76, frs_FG5_init_76]
  unfold b_FG5_init_76
  rw [iLt_t (by omega) (by omega) (by omega), iLt_t (by omega) (by omega) (by omega), (w_all (n := 5) (k := 0) (by omega) (by omega) (by decide)).1, ob_s, ob_s]
  simp only [fz_eq]
  exact iz97_5 _ _ _ _ _ _ zd _ _ _ _ _ _
theorem initq5 : ∃ q, (∀ zd, f_FG5_init 0 0 zd = some q) ∧ q.1 = LK5 := by
  obtain ⟨q, e, h⟩ := oB_t init5
  exact ⟨q, fun zd => by rw [iz_5]; exact e, Nat.eq_of_beq_eq_true h⟩
theorem facts_flips5 : F_flips5 wB cat LKt := by
  intro k x hk hx
  have hk : k < 42 := hk
  have hx : x < 42 := hx
  obtain ⟨⟨S2, Q2, hd⟩, hfin⟩ := cw_dist5 fill5 ff5 uD5 hk hx
  obtain ⟨t, ht, t1, t2⟩ := mo_flips (n := 5) (W := 42) (L := 5) (by omega) (by omega) rfl sets5 list5 ff5 hk hx (by omega) hfin
  obtain ⟨q, hq, q1⟩ := initq5
  have hir : f_CW_isRank x 5 = some 1 := by
    rw [cw_isRank (by omega) (by omega) (by omega), if_pos (show x < cat 5 from hx)]
  have hof : f_RK_of (wB 5 k) 5 = some k := (w_all (n := 5) (by omega) (by omega) (show k < cat 5 from hk)).2.1
  generalize ag (FdN 5 42 (aw FF5 k 0) 5) x - 1 = v at hd t1
  refine ⟨v, (v, S2, Q2), (v, q.2.1, q.2.2.1, q.2.2.2.1, q.1, S2, Q2), t, ?_, rfl, fun zd => ?_, rfl, ?_, ht, t1, t2⟩
  · unfold f_CW_flipsP5
    rw [iLt_f (by omega) (by omega) (by omega), hir, ob_s, iEq_f (by omega) (by omega) (by omega), hof, ob_s, show LKt 5 = LK5 from rfl, hd, ob_s]
  · unfold f_CW_flipsA5
    rw [iLt_f (by omega) (by omega) (by omega), hir, ob_s, iEq_f (by omega) (by omega) (by omega), hq zd, ob_s, hof, ob_s, q1, hd, ob_s]
  · show sbO (LKt 5) q.1
    rw [q1]
    exact sbO_rfl _
theorem iz97_6 (k l1 l6 lk lo hi zd b c p b4 c4 p4 : Nat) : fr_FG6_init 0 0 0 (k + 1) 1 l1 l6 0 lk lo hi zd b c p b4 c4 p4 = fr_FG6_init 0 0 0 (k + 1) 1 l1 l6 0 lk lo hi 0 b c p b4 c4 p4 := by
  rw [frs_FG6_init_97, frs_FG6_init_97]
  unfold b_FG6_init_97
  rw [iLt_t (by omega) (by omega) (by omega), iLt_t (by omega) (by omega) (by omega), tr_dz lo hi zd]
theorem izf_6 (zd k : Nat) : fr_FG6_init 0 0 zd k = fr_FG6_init 0 0 0 k := rfl
theorem iz_6 (zd : Nat) : f_FG6_init 0 0 zd = f_FG6_init 0 0 0 := by
  unfold f_FG6_init e_FG6_init
  rw [izf_6]
  show fr_FG6_init 0 0 0 (999998 + 1 + 1) 0 6 0 0 0 0 zd 0 0 0 0 0 0 0 = fr_FG6_init 0 0 0 (999998 + 1 + 1) 0 6 0 0 0 0 0 0 0 0 0 0 0 0
  rw [frs_FG6_init_76, frs_FG6_init_76]
  unfold b_FG6_init_76
  rw [iLt_t (by omega) (by omega) (by omega), iLt_t (by omega) (by omega) (by omega), (w_all (n := 6) (k := 0) (by omega) (by omega) (by decide)).1, ob_s, ob_s]
  simp only [fz_eq]
  exact iz97_6 _ _ _ _ _ _ zd _ _ _ _ _ _
theorem initq6 : ∃ q, (∀ zd, f_FG6_init 0 0 zd = some q) ∧ q.1 = LK6 := by
  obtain ⟨q, e, h⟩ := oB_t init6
  exact ⟨q, fun zd => by rw [iz_6]; exact e, Nat.eq_of_beq_eq_true h⟩
theorem facts_flips6 : F_flips6 wB cat LKt := by
  intro k x hk hx
  have hk : k < 132 := hk
  have hx : x < 132 := hx
  obtain ⟨⟨S2, Q2, hd⟩, hfin⟩ := cw_dist6 fill6 ff6 uD6 hk hx
  obtain ⟨t, ht, t1, t2⟩ := mo_flips (n := 6) (W := 132) (L := 7) (by omega) (by omega) rfl sets6 list6 ff6 hk hx (by omega) hfin
  obtain ⟨q, hq, q1⟩ := initq6
  have hir : f_CW_isRank x 6 = some 1 := by
    rw [cw_isRank (by omega) (by omega) (by omega), if_pos (show x < cat 6 from hx)]
  have hof : f_RK_of (wB 6 k) 6 = some k := (w_all (n := 6) (by omega) (by omega) (show k < cat 6 from hk)).2.1
  generalize ag (FdN 6 132 (aw FF6 k 0) 7) x - 1 = v at hd t1
  refine ⟨v, (v, S2, Q2), (v, q.2.1, q.2.2.1, q.2.2.2.1, q.1, S2, Q2), t, ?_, rfl, fun zd => ?_, rfl, ?_, ht, t1, t2⟩
  · unfold f_CW_flipsP6
    rw [iLt_f (by omega) (by omega) (by omega), hir, ob_s, iEq_f (by omega) (by omega) (by omega), hof, ob_s, show LKt 6 = LK6 from rfl, hd, ob_s]
  · unfold f_CW_flipsA6
    rw [iLt_f (by omega) (by omega) (by omega), hir, ob_s, iEq_f (by omega) (by omega) (by omega), hq zd, ob_s, hof, ob_s, q1, hd, ob_s]
  · show sbO (LKt 6) q.1
    rw [q1]
    exact sbO_rfl _
theorem facts_flipsX : F_flipsX wB cat := by
  intro n k x h1 h2 hk hx hn
  have hcl : f_CW_flipsX x n = some 0 := by
    unfold f_CW_flipsX f_WD_pairs j_CW_flipsX_20
    rw [ob_s]
    by_cases h6 : 6 < n
    · rw [iLt_t (by omega) (by omega) h6]
    · rw [iLt_f (by omega) (by omega) (by omega), cw_isRank h1 h2 hx, if_neg (by omega), ob_s, iEq_t]
  have key : (∃ t : Nat × Nat × Nat × Nat × Nat × Nat × Nat × Nat × Nat × Nat × Nat, (∀ c : Nat, f_MO_flips x c n (wB n k) 0 0 0 0 0 0 0 0 0 = some t) ∧ t.2.1 = 1) := by
    by_cases h6 : 6 < n
    · refine ⟨(0, 1, 0, 0, 0, 0, 0, 0, 0, 0, 0), fun c => ?_, rfl⟩
      unfold f_MO_flips e_MO_flips j_MO_flips_21 j_MO_flips_26
      rw [iLt_t (by omega) (by omega) h6, iLt_t (by omega) (by omega) (by omega)]
    · by_cases hb : x < 2147483648
      · by_cases hx2 : 131 < x
        · refine ⟨(0, 1, 0, 0, 0, 0, 0, 0, 0, 0, 0), fun c => ?_, rfl⟩
          unfold f_MO_flips e_MO_flips j_MO_flips_21 j_MO_flips_26
          rw [iLt_f (by omega) (by omega) (by omega), iLt_f hb (by omega) (by omega), iLt_t (by omega) hb hx2, iLt_t (by omega) (by omega) (by omega)]
        · have hcx : cat n ≤ x := by omega
          rcases (by omega : n = 1 ∨ n = 2 ∨ n = 3 ∨ n = 4 ∨ n = 5 ∨ n = 6) with rfl | rfl | rfl | rfl | rfl | rfl
          · exact mo_flipsX (by omega) (by omega) list1 hcx (by omega) _
          · exact mo_flipsX (by omega) (by omega) list2 hcx (by omega) _
          · exact mo_flipsX (by omega) (by omega) list3 hcx (by omega) _
          · exact mo_flipsX (by omega) (by omega) list4 hcx (by omega) _
          · exact mo_flipsX (by omega) (by omega) list5 hcx (by omega) _
          · exact mo_flipsX (by omega) (by omega) list6 hcx (by omega) _
      · refine ⟨(0, 1, 0, 0, 0, 0, 0, 0, 0, 0, 0), fun c => ?_, rfl⟩
        unfold f_MO_flips e_MO_flips j_MO_flips_21 j_MO_flips_26
        rw [iLt_f (by omega) (by omega) (by omega), iLt_big (by omega) hx 0 (by omega), iLt_t (by omega) (by omega) (by omega)]
  obtain ⟨t, ht, ht2⟩ := key
  exact ⟨0, t, hcl, ht, ht2⟩
theorem st_word : ar (ar zf (aw 0 0 1)) (wB 1 0) = ar zf (aw 0 0 1) := by
  have e : wB 1 0 = 8589934594 := by
    have h := (w_first (n := 1) (by omega) (by omega)).2
    have h2 : f_MO_first_word 1 0 = some 8589934594 := by decide +kernel
    rw [h] at h2
    exact Option.some.inj h2
  rw [e]
  funext i
  show (if ag 8589934594 i = 0 then ar zf (aw 0 0 1) i else nI (ag 8589934594 i - 1)) = ar zf (aw 0 0 1) i
  by_cases h0 : i = 0
  · subst h0
    have a1 : ag 8589934594 0 = 2 := by decide +kernel
    have a2 : ag (aw 0 0 1) 0 = 2 := by decide +kernel
    show (if ag 8589934594 0 = 0 then _ else nI (ag 8589934594 0 - 1)) = (if ag (aw 0 0 1) 0 = 0 then zf 0 else nI (ag (aw 0 0 1) 0 - 1))
    rw [a1, a2, if_neg (by omega), if_neg (by omega)]
  · by_cases h1 : i = 1
    · subst h1
      have a1 : ag 8589934594 1 = 1 := by decide +kernel
      have a2 : ag (aw 0 0 1) 1 = 0 := by decide +kernel
      show (if ag 8589934594 1 = 0 then _ else nI (ag 8589934594 1 - 1)) = (if ag (aw 0 0 1) 1 = 0 then zf 1 else nI (ag (aw 0 0 1) 1 - 1))
      rw [a1, a2, if_neg (by omega), if_pos rfl]
      rfl
    · rw [if_pos (ag_top (m := 2) (by decide) (by omega))]
