/-! turn -/
noncomputable def tcn (n c : Nat) : Nat := bif Nat.beq (Nat.mod c 16) (Nat.succ n) then Nat.succ (Nat.div c 16) else Nat.add c 17
noncomputable def tnF (n Q : Nat) : Nat → Nat := fun m => Nat.rec 0 (fun e F => fz F (fun F => insN (tcn n (Nat.sub (ag Q e) 1)) e F)) m
theorem tnF_s (n Q e : Nat) : tnF n Q (e + 1) = insN (tcn n (ag Q e - 1)) e (tnF n Q e) := by
  show fz (tnF n Q e) (fun F => insN (tcn n (Nat.sub (ag Q e) 1)) e F) = _
  rw [fz_eq]
  rfl
theorem tcn_t {n c : Nat} (h : c % 16 = n + 1) : tcn n c = c / 16 + 1 := by
  unfold tcn
  rw [show Nat.mod c 16 = Nat.succ n from h, Nat.beq_refl]
  rfl
theorem tcn_f {n c : Nat} (h : c % 16 ≠ n + 1) : tcn n c = c + 17 := by
  unfold tcn
  have hb : Nat.beq (Nat.mod c 16) (Nat.succ n) = false := by
    cases hc : Nat.beq (Nat.mod c 16) (Nat.succ n) with
    | false => rfl
    | true => exact absurd (Nat.eq_of_beq_eq_true hc) h
  rw [hb]
  rfl
/-- codes, their highs no greater than the last corner -/
def cdt (n Q D : Nat) : Prop := ∀ e, e < D → ∃ c, ag Q e = c + 1 ∧ c / 16 < c % 16 ∧ c % 16 ≤ n + 1 ∧ c < 256
noncomputable def tt (n k : Nat) : Nat := Nat.mod (Nat.shiftRight (TT n) (Nat.mul 16 k)) 65536
noncomputable def ckT (n k : Nat) : Bool := fz (tb n k) (fun Q => fz (tt n k) (fun k2 => bnd (Nat.blt k2 (cat n)) (bnd (alB (fun e => Nat.blt (Nat.mod (Nat.sub (ag Q e) 1) 16) (Nat.add n 2)) 0 (Nat.sub n 1)) (Nat.beq (tnF n Q (Nat.sub n 1)) (tb n k2)))))
def AllT : Prop := ∀ n k : Nat, 1 ≤ n → n ≤ 9 → k < cat n → ckT n k = true
theorem tn_ct {n Q D : Nat} (h2 : n ≤ 9) (hq : cdt n Q D) (x : Nat) : ∀ e, e ≤ D → (∀ t, t < e → 0 < ag (tnF n Q e) t ∧ ag (tnF n Q e) t ≤ 256) ∧ ∀ Q2, (∀ t, t < e → ∃ c, ag Q t = c + 1 ∧ ag Q2 t = tcn n c + 1) → ctQ (tnF n Q e) x e = ctQ Q2 x e := by
  intro e
  induction e with
  | zero => intro _; exact ⟨fun t ht => by omega, fun _ _ => rfl⟩
  | succ e ih =>
    intro he
    obtain ⟨i1, i2⟩ := ih (by omega)
    obtain ⟨c, q1, q2, q3, q4⟩ := hq e (by omega)
    have ht : tcn n c < 256 := by
      by_cases h : c % 16 = n + 1
      · rw [tcn_t h]; omega
      · rw [tcn_f h]; omega
    rw [tnF_s, q1, Nat.add_sub_cancel]
    refine ⟨insN_rg ht _ _ i1, fun Q2 h => ?_⟩
    obtain ⟨c2, p1, p2⟩ := h e (by omega)
    have : c2 = c := by omega
    subst this
    rw [ctQ_ins _ x ht _ _ i1, ctQ_s, p2, Nat.add_sub_cancel, i2 Q2 (fun t q => h t (by omega))]
theorem tn_go {cc n w tr sh wa lo hi op cl pi N Q D ww : Nat} (h2 : n ≤ 9) (hD : D = n - 1) (hr : rp N Q D) (hq : cdt n Q D) : ∀ r fuel e W, e + r = D → r < fuel → (∀ t, t < e → rq1 W (tnF n Q e) t) → ∃ W2, (∀ t, t < D → rq1 W2 (tnF n Q D) t) ∧ fr_MO_turnF cc n w tr sh wa lo hi op cl pi fuel (2 * D) (2 * e) 0 ww 0 N W = Option.bind (f_MO_findF_wanted 3 n ww 0 N W2 0 0 0 0 0) (fun q4 => some (q4.1, 0, q4.2)) := by
  intro r
  induction r with
  | zero =>
    intro fuel e W hl hf hW
    obtain ⟨m, rfl⟩ : ∃ m, fuel = m + 1 := ⟨fuel - 1, by omega⟩
    obtain rfl : e = D := by omega
    refine ⟨W, hW, ?_⟩
    rw [frs_MO_turnF_21]
    unfold b_MO_turnF_21
    rw [iLt_f (by omega) (by omega) (by omega)]
  | succ r ih =>
    intro fuel e W hl hf hW
    obtain ⟨m, rfl⟩ : ∃ m, fuel = m + 1 := ⟨fuel - 1, by omega⟩
    obtain ⟨c, q1, q2, q3, q4, q5⟩ := hr e (by omega)
    obtain ⟨c', p1, p2, p3, p4⟩ := hq e (by omega)
    have : c' = c := by omega
    subst this
    have hcode : ∃ x y, (c' / 16 + 1) % (n + 2) = x ∧ (c' % 16 + 1) % (n + 2) = y ∧ x < 16 ∧ y < 16 ∧ 16 * min x y + max x y = tcn n c' := by
      by_cases h : c' % 16 = n + 1
      · refine ⟨c' / 16 + 1, 0, Nat.mod_eq_of_lt (by omega), by rw [h, show n + 1 + 1 = n + 2 by omega, Nat.mod_self], by omega, by omega, ?_⟩
        rw [tcn_t h]
        omega
      · refine ⟨c' / 16 + 1, c' % 16 + 1, Nat.mod_eq_of_lt (by omega), Nat.mod_eq_of_lt (by omega), by omega, by omega, ?_⟩
        rw [tcn_f h]
        omega
    obtain ⟨x, y, ex, ey, hx, hy, hxy⟩ := hcode
    obtain ⟨W2, e2, g2⟩ := mo_wish (x := x) (y := y) (m := e) (by omega) hx hy hW
    obtain ⟨W3, g3, g4⟩ := ih m (e + 1) W2 (by omega) (by omega) (by
      rw [tnF_s, q1, Nat.add_sub_cancel, ← hxy]
      exact g2)
    refine ⟨W3, g3, ?_⟩
    rw [frs_MO_turnF_21]
    unfold b_MO_turnF_21
    rw [iLt_t (by omega) (by omega) (by omega), rd_k q4 (by omega), iA_n (a := c' / 16) (b := 1) (by omega), iA_n (a := n) (b := 2) (by omega), bl_t (by omega), bl_t (by omega), bl_t (by omega), iA_n (a := 2 * e) (b := 1) (by omega), rd_k q5 (by omega), iA_n (a := c' % 16) (b := 1) (by omega), bl_t (by omega), bl_t (by omega), bl_t (by omega), jRem_eq, jRem_eq, ex, ey, e2]
    simp only [ob_s]
    rw [fz_eq, iA_n (by omega)]
    rw [show 2 * (e + 1) = 2 * e + 2 by omega] at g4
    exact g4
theorem mc_go {n zl zh D Q : Nat} (h2 : n ≤ 9) (hD : D = n - 1) (h1 : 1 ≤ n) (hq : cdt n Q D) : ∀ r fuel l1 L H, l1 + r = D → r < fuel → (∀ e, e < l1 → ∃ c, ag Q e = c + 1 ∧ ag L e = tcn n c / 16 + 1) → (∀ e, l1 ≤ e → e < D → ∃ c, ag Q e = c + 1 ∧ ag L e = c / 16 + 1 ∧ ag H e = c % 16 + 1) → ∃ L2 H2, fr_TR_moveCorners zl zh D fuel l1 L H = some (L2, H2) ∧ ∀ e, e < D → ∃ c, ag Q e = c + 1 ∧ ag L2 e = tcn n c / 16 + 1 := by
  intro r
  induction r with
  | zero =>
    intro fuel l1 L H hl hf ha hb
    obtain ⟨m, rfl⟩ : ∃ m, fuel = m + 1 := ⟨fuel - 1, by omega⟩
    refine ⟨L, H, ?_, fun e he => ha e (by omega)⟩
    rw [frs_TR_moveCorners_2]
    unfold b_TR_moveCorners_2
    rw [iLt_f (by omega) (by omega) (by omega)]
  | succ r ih =>
    intro fuel l1 L H hl hf ha hb
    obtain ⟨m, rfl⟩ : ∃ m, fuel = m + 1 := ⟨fuel - 1, by omega⟩
    obtain ⟨c, q1, q2, q3⟩ := hb l1 (Nat.le_refl _) (by omega)
    obtain ⟨c', p1, p2, p3, p4⟩ := hq l1 (by omega)
    have : c' = c := by omega
    subst this
    have nx : ∀ a b, a = tcn n c' / 16 → ∃ L2 H2, fr_TR_moveCorners zl zh D m (l1 + 1) (aw L l1 a) (aw H l1 b) = some (L2, H2) ∧ ∀ e, e < D → ∃ c, ag Q e = c + 1 ∧ ag L2 e = tcn n c / 16 + 1 := fun a b hab => by
      refine ih m (l1 + 1) _ _ (by omega) (by omega) (fun e he => ?_) (fun e he he2 => ?_)
      · rw [ag_aw]
        by_cases h : l1 = e
        · subst h
          rw [if_pos rfl, hab]
          refine ⟨c', q1, ?_⟩
          rw [Nat.mod_eq_of_lt]
          by_cases h9 : c' % 16 = n + 1
          · rw [tcn_t h9]; omega
          · rw [tcn_f h9]; omega
        · rw [if_neg h]
          exact ha e (by omega)
      · rw [ag_aw, ag_aw, if_neg (by omega), if_neg (by omega)]
        exact hb e (by omega) he2
    rw [frs_TR_moveCorners_2]
    unfold b_TR_moveCorners_2 f_TR_lastCorner j_TR_moveCorners_67
    rw [iLt_t (by omega) (by omega) (by omega), rd_k q3 (by omega)]
    simp only [ob_s]
    rw [iA_n (a := D) (b := 2) (by omega)]
    by_cases h : c' % 16 = D + 2
    · rw [h, iEq_t, rd_k q2 (by omega), bl_t (by omega), bl_t (by omega)]
      simp only [fz_eq]
      rw [iA_n (a := l1) (b := 1) (by omega)]
      exact nx 0 _ (by rw [tcn_t (by omega)]; omega)
    · rw [iEq_f (by omega) (by omega) h, rd_k q2 (by omega), bl_t (by omega), rd_k q3 (by omega), bl_t (by omega)]
      simp only [fz_eq]
      rw [iA_n (a := l1) (b := 1) (by omega)]
      exact nx _ _ (by rw [iA_n (by omega), tcn_f (by omega)]; omega)
/-- an overlay of the turned codes -/
noncomputable def tcQ (n Q : Nat) : Nat → Nat := fun m => Nat.rec 0 (fun e R => aw R e (tcn n (ag Q e - 1))) m
theorem tcQ_ag {n Q D : Nat} (h2 : n ≤ 9) (hq : cdt n Q D) : ∀ m, m ≤ D → ∀ t, t < m → ∃ c, ag Q t = c + 1 ∧ ag (tcQ n Q m) t = tcn n c + 1 := by
  intro m
  induction m with
  | zero => intro _ t ht; omega
  | succ m ih =>
    intro hm t ht
    show ∃ c, ag Q t = c + 1 ∧ ag (aw (tcQ n Q m) m (tcn n (ag Q m - 1))) t = tcn n c + 1
    rw [ag_aw]
    by_cases h : m = t
    · subst h
      obtain ⟨c, q1, q2, q3, q4⟩ := hq m (by omega)
      rw [if_pos rfl, q1, Nat.add_sub_cancel]
      refine ⟨c, rfl, ?_⟩
      rw [Nat.mod_eq_of_lt]
      by_cases h9 : c % 16 = n + 1
      · rw [tcn_t h9]; omega
      · rw [tcn_f h9]; omega
    · rw [if_neg h]
      exact ih (by omega) t (by omega)
theorem facts_turn (hA : AllA) (hT : AllT) : F_turn wB wC cat := by
  intro n k h1 h2 hk
  have hc := cat_le h1 h2
  obtain ⟨R, W, -, hr, L, H, hdr, hr2⟩ := (a_all hA h1 h2 hk).2.2.2.2.1
  obtain ⟨⟨y, eW⟩, -⟩ := R
  rw [show 2 * n - 2 = 2 * (n - 1) by omega] at eW
  have hcx := hT n k h1 h2 hk
  unfold ckT at hcx
  rw [fz_eq, fz_eq] at hcx
  generalize tt n k = k2 at hcx
  obtain ⟨g1, hcx⟩ := bnd_t hcx
  obtain ⟨g2, g3⟩ := bnd_t hcx
  have hk2 : k2 < cat n := Nat.blt_eq.mp g1
  have hE : tnF n (tb n k) (n - 1) = tb n k2 := Nat.eq_of_beq_eq_true g3
  have hq : cdt n (tb n k) (n - 1) := fun e he => by
    obtain ⟨c, q1, q2, q3, -⟩ := hr e he
    have h3 := (upTo.z _).ext (a := 0) (m := Nat.sub n 1) g2 e (by show e < 0 + (n - 1); omega)
    have h4 : (ag (tb n k) e - 1) % 16 < n + 2 := Nat.blt_eq.mp h3
    rw [q1, Nat.add_sub_cancel] at h4
    exact ⟨c, q1, q3, by omega, q2⟩
  obtain ⟨L2, H2, hmv, hL2⟩ := mc_go (zl := L) (zh := H) h2 rfl h1 hq (n - 1) 1000000 0 L H (by omega) (by omega) (fun e he => by omega) (fun e _ he => hr2 e he)
  have hLk : ∀ e, e < n - 1 → ∃ c, c < 256 ∧ ag (tcQ n (tb n k) (n - 1)) e = c + 1 ∧ ag L2 e = c / 16 + 1 := fun e he => by
    obtain ⟨c, q1, q2⟩ := hL2 e he
    obtain ⟨c2, p1, p2⟩ := tcQ_ag h2 hq (n - 1) (Nat.le_refl _) e he
    obtain ⟨c3, u1, u2, u3, u4⟩ := hq e he
    have : c2 = c := by omega
    subst this
    have : c3 = c2 := by omega
    subst this
    refine ⟨tcn n c3, ?_, p2, q2⟩
    by_cases h9 : c3 % 16 = n + 1
    · rw [tcn_t h9]; omega
    · rw [tcn_f h9]; omega
  have htell : f_TR_tell L2 (n - 1) c0 n = some (wC n k2) := by
    refine tell_k hA h1 h2 hk2 (fun e he => ?_) (fun v hv => ?_)
    · obtain ⟨c, u1, u2, u3⟩ := hLk e he
      exact ⟨c / 16, by omega, u3⟩
    · rw [cn_all (by omega) hLk, ← hE]
      exact ((tn_ct h2 hq v (n - 1) (Nat.le_refl _)).2 _ (tcQ_ag h2 hq (n - 1) (Nat.le_refl _))).symm
  obtain ⟨R2, -, -, hrk2, -⟩ := (a_all hA h1 h2 hk2).2.2.2.2.1
  obtain ⟨O, hO, hs⟩ := copy_k h1 h2 hk2 (wB n k)
  refine ⟨k2, (k2, L2, H2, n - 1, wB n k2, wC n k2, n), (k2, 0, O), hk2, fun zd pb => ?_, sbO_rfl _, sbO_rfl _, rfl, fun c => ?_, rfl, hs⟩
  · unfold f_CW_turn f_WD_pairs f_WD_begin
    simp only [ob_s]
    rw [fill_c0]
    simp only [ob_s]
    rw [tr_dz, hdr]
    simp only [ob_s]
    unfold f_TR_moveCorners e_TR_moveCorners
    rw [hmv]
    simp only [ob_s]
    rw [htell]
    simp only [ob_s]
    rw [cw_adopt hA h1 h2 hk2]
    rfl
  · obtain ⟨W2, gW, gE⟩ := tn_go (cc := c) (n := n) (w := wB n k) (tr := 0) (sh := 0) (wa := 0) (lo := 0) (hi := 0) (op := 0) (cl := 0) (pi := 0) (ww := wB n k) h2 rfl hr hq (n - 1) 1000000 0 0 (by omega) (by omega) (fun t ht => by omega)
    rw [hE] at gW
    have hf := find_wantedO (famR3 hA) h1 h2 hk2 (W := W2) (fun t ht => rq_ag hrk2 gW t (by omega)) (wB n k) (nN 3 n k) hO
    rw [Nat.mul_zero] at gE
    unfold f_MO_turnF e_MO_turnF
    rw [weq_write_word_shown, eW]
    simp only [ob_s]
    rw [fz_eq, fz_eq, gE, hf]
    rfl
