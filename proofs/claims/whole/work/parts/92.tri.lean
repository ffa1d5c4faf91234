/-! triangulations by their codes: joined, exchange, corner -/
/-- two corners are joined: neighbours, the first and the last, or by a diagonal -/
def jn (D Q x y : Nat) : Prop := x = y + 1 ∨ y = x + 1 ∨ (min x y = 0 ∧ max x y = D + 2) ∨ ∃ e, e < D ∧ ag Q e = 16 * min x y + max x y + 1
theorem iEq_te {α : Type} {a b : Nat} {X Y : α} (h : a = b) : (bif iEq a b then X else Y) = X := by
  rw [h]
  exact iEq_t
theorem iMx_n {a b : Nat} (ha : a < 2147483648) (hb : b < 2147483648) : iMx a b = max a b := by
  unfold iMx
  by_cases h : a < b
  · rw [iLt_t ha hb h]; omega
  · rw [iLt_f ha hb (by omega)]; omega
theorem iMn_n {a b : Nat} (ha : a < 2147483648) (hb : b < 2147483648) : iMn a b = min a b := by
  unfold iMn
  by_cases h : b < a
  · rw [iLt_t hb ha h]; omega
  · rw [iLt_f hb ha (by omega)]; omega
theorem tj_go {L H Q D x y a b : Nat} (hD : D ≤ 9) (hr : rpL L H Q D) (hc : ∀ e, e < D → ag Q e < 300) (ha : a < 16) (hb : b < 16) : ∀ d fuel l5, l5 + d = D → d < fuel → ((∃ e, l5 ≤ e ∧ e < D ∧ ag Q e = 16 * a + b + 1) → fr_TR_joined x y L H D fuel a b l5 = some 1) ∧ ((¬ ∃ e, l5 ≤ e ∧ e < D ∧ ag Q e = 16 * a + b + 1) → fr_TR_joined x y L H D fuel a b l5 = some 0) := by
  intro d
  induction d with
  | zero =>
    intro fuel l5 hl hf
    obtain ⟨m, rfl⟩ : ∃ m, fuel = m + 1 := ⟨fuel - 1, by omega⟩
    refine ⟨fun ⟨e, q1, q2, _⟩ => by omega, fun _ => ?_⟩
    rw [frs_TR_joined_39]
    unfold b_TR_joined_39
    rw [iLt_f (by omega) (by omega) (by omega)]
  | succ d ih =>
    intro fuel l5 hl hf
    obtain ⟨m, rfl⟩ : ∃ m, fuel = m + 1 := ⟨fuel - 1, by omega⟩
    obtain ⟨c, ec, eL, eH⟩ := hr l5 (by omega)
    have hc5 := hc l5 (by omega)
    obtain ⟨i1, i2⟩ := ih m (l5 + 1) (by omega) (by omega)
    have step : c ≠ 16 * a + b → fr_TR_joined x y L H D (m + 1) a b l5 = fr_TR_joined x y L H D m a b (l5 + 1) := fun hne => by
      rw [frs_TR_joined_39]
      unfold b_TR_joined_39 j_TR_joined_73
      rw [iLt_t (by omega) (by omega) (by omega), rd_k eL (by omega)]
      by_cases h1 : c / 16 = a
      · rw [h1, iEq_t, rd_k eH (by omega), iEq_f (by omega) (by omega) (by omega), fz_eq, iA_n (by omega)]
      · rw [iEq_f (by omega) (by omega) h1, fz_eq, iA_n (by omega)]
    by_cases h : c = 16 * a + b
    · refine ⟨fun _ => ?_, fun hn => absurd ⟨l5, Nat.le_refl _, by omega, by rw [ec, h]⟩ hn⟩
      rw [frs_TR_joined_39]
      unfold b_TR_joined_39
      rw [iLt_t (by omega) (by omega) (by omega), rd_k eL (by omega), show c / 16 = a by omega, iEq_t, rd_k eH (by omega), show c % 16 = b by omega, iEq_t]
    · rw [step h]
      refine ⟨fun ⟨e, q1, q2, q3⟩ => i1 ⟨e, ?_, q2, q3⟩, fun hn => i2 (fun ⟨e, q1, q2, q3⟩ => hn ⟨e, by omega, q2, q3⟩)⟩
      by_cases he : e = l5
      · subst he
        rw [ec] at q3
        exact absurd (Nat.succ.inj q3) h
      · omega
theorem tr_joined {L H Q D x y : Nat} (hD : D ≤ 9) (hr : rpL L H Q D) (hc : ∀ e, e < D → ag Q e < 300) (hx : x < 16) (hy : y < 16) : (jn D Q x y → f_TR_joined x y L H D = some 1) ∧ (¬ jn D Q x y → f_TR_joined x y L H D = some 0) := by
  have g := tj_go (x := x) (y := y) hD hr hc (a := min x y) (b := max x y) (by omega) (by omega) D 1000000 0 (by omega) (by omega)
  have key : ¬ (x = y + 1 ∨ y = x + 1) → ¬ (min x y = 0 ∧ max x y = D + 2) → f_TR_joined x y L H D = fr_TR_joined x y L H D 1000000 (min x y) (max x y) 0 := fun h1 h2 => by
    unfold f_TR_joined e_TR_joined j_TR_joined_36 f_TR_lastCorner
    rw [iMx_n (by omega) (by omega), iMn_n (by omega) (by omega), iS_n (by omega) (by omega), iEq_f (by omega) (by omega) (by omega)]
    simp only [ob_s, fz_eq]
    by_cases h0 : min x y = 0
    · rw [h0, iEq_t, iA_n (by omega), iEq_f (by omega) (by omega) (by omega)]
    · rw [iEq_f (by omega) (by omega) h0]
  refine ⟨fun h => ?_, fun h => ?_⟩
  · by_cases h1 : x = y + 1 ∨ y = x + 1
    · unfold f_TR_joined e_TR_joined
      rw [iMx_n (by omega) (by omega), iMn_n (by omega) (by omega), iS_n (by omega) (by omega), show max x y - min x y = 1 by omega, iEq_t]
    · by_cases h2 : min x y = 0 ∧ max x y = D + 2
      · unfold f_TR_joined e_TR_joined f_TR_lastCorner
        rw [iMx_n (by omega) (by omega), iMn_n (by omega) (by omega), iS_n (by omega) (by omega), iEq_f (by omega) (by omega) (by omega), h2.1, h2.2, iEq_t]
        simp only [ob_s]
        rw [iA_n (by omega), iEq_t]
      · rw [key h1 h2]
        refine g.1 ?_
        rcases h with h | h | h | ⟨e, q1, q2⟩
        · exact absurd (Or.inl h) h1
        · exact absurd (Or.inr h) h1
        · exact absurd h h2
        · exact ⟨e, Nat.zero_le _, q1, q2⟩
  · have h1 : ¬ (x = y + 1 ∨ y = x + 1) := fun q => h (by
      rcases q with q | q
      · exact Or.inl q
      · exact Or.inr (Or.inl q))
    have h2 : ¬ (min x y = 0 ∧ max x y = D + 2) := fun q => h (Or.inr (Or.inr (Or.inl q)))
    rw [key h1 h2]
    refine g.2 (fun ⟨e, _, q2, q3⟩ => h (Or.inr (Or.inr (Or.inr ⟨e, q2, q3⟩))))
theorem mj_go {N Q n x y z a b D : Nat} (hD : D ≤ 9) (hr : rp N Q D) (ha : a < 16) (hb : b < 16) : ∀ d fuel l7 s, l7 + d = D → s < 2 → d < fuel → ((s = 1 ∨ ∃ e, l7 ≤ e ∧ e < D ∧ ag Q e = 16 * a + b + 1) → fr_MO_joined x y z n N fuel (2 * D) a b s (2 * l7) = some 1) ∧ ((¬ (s = 1 ∨ ∃ e, l7 ≤ e ∧ e < D ∧ ag Q e = 16 * a + b + 1)) → fr_MO_joined x y z n N fuel (2 * D) a b s (2 * l7) = some 0) := by
  intro d
  induction d with
  | zero =>
    intro fuel l7 s hl hs hf
    obtain ⟨m, rfl⟩ : ∃ m, fuel = m + 1 := ⟨fuel - 1, by omega⟩
    have e : fr_MO_joined x y z n N (m + 1) (2 * D) a b s (2 * l7) = some s := by
      rw [frs_MO_joined_59]
      unfold b_MO_joined_59
      rw [iLt_f (by omega) (by omega) (by omega), bl_t hs]
    rw [e]
    refine ⟨fun h => ?_, fun h => ?_⟩
    · rcases h with h | ⟨e, q1, q2, _⟩
      · rw [h]
      · omega
    · have : s ≠ 1 := fun q => h (Or.inl q)
      rw [show s = 0 by omega]
  | succ d ih =>
    intro fuel l7 s hl hs hf
    obtain ⟨m, rfl⟩ : ∃ m, fuel = m + 1 := ⟨fuel - 1, by omega⟩
    obtain ⟨c, ec, hc, -, eL, eH⟩ := hr l7 (by omega)
    have step : fr_MO_joined x y z n N (m + 1) (2 * D) a b s (2 * l7) = fr_MO_joined x y z n N m (2 * D) a b (if s = 1 ∨ c = 16 * a + b then 1 else 0) (2 * (l7 + 1)) := by
      rw [frs_MO_joined_59, show 2 * (l7 + 1) = 2 * l7 + 2 by omega]
      unfold b_MO_joined_59 j_MO_joined_96 j_MO_joined_100 j_MO_joined_101
      rw [iLt_t (by omega) (by omega) (by omega)]
      by_cases h1 : s = 1
      · rw [h1, iEq_f (by omega) (by omega) (by omega), if_pos (Or.inl rfl), fz_eq, iA_n (by omega)]
      · rw [show s = 0 by omega, iEq_t, rd_k eL (by omega)]
        by_cases h2 : c / 16 = a
        · rw [h2, iEq_t, iA_n (by omega), rd_k eH (by omega)]
          by_cases h3 : c % 16 = b
          · rw [h3, iEq_t, if_pos (Or.inr (by omega)), fz_eq, iA_n (by omega)]
          · rw [iEq_f (by omega) (by omega) h3, if_neg (by omega), fz_eq, iA_n (by omega)]
        · rw [iEq_f (by omega) (by omega) h2, if_neg (by omega), fz_eq, iA_n (by omega)]
    rw [step]
    by_cases hh : s = 1 ∨ c = 16 * a + b
    · rw [if_pos hh]
      obtain ⟨i1, -⟩ := ih m (l7 + 1) 1 (by omega) (by omega) (by omega)
      refine ⟨fun _ => i1 (Or.inl rfl), fun hn => ?_⟩
      exfalso
      apply hn
      rcases hh with h | h
      · exact Or.inl h
      · exact Or.inr ⟨l7, Nat.le_refl _, by omega, by rw [ec, h]⟩
    · rw [if_neg hh]
      obtain ⟨i1, i2⟩ := ih m (l7 + 1) 0 (by omega) (by omega) (by omega)
      refine ⟨fun h => i1 (Or.inr ?_), fun hn => i2 (fun h => ?_)⟩
      · rcases h with h | ⟨e, q1, q2, q3⟩
        · exact absurd (Or.inl h) hh
        · refine ⟨e, ?_, q2, q3⟩
          by_cases he : e = l7
          · subst he
            rw [ec] at q3
            exact absurd (Or.inr (Nat.succ.inj q3)) hh
          · omega
      · rcases h with h | ⟨e, q1, q2, q3⟩
        · omega
        · exact hn (Or.inr ⟨e, by omega, q2, q3⟩)
theorem mo_joined {N Q n D x y : Nat} (hD : D ≤ 9) (hn : n = D + 1) (hr : rp N Q D) (hx : x < 16) (hy : y < 16) : (jn D Q x y → f_MO_joined x y (2 * D) n N = some 1) ∧ (¬ jn D Q x y → f_MO_joined x y (2 * D) n N = some 0) := by
  subst hn
  have g := fun s hs => mj_go (n := D + 1) (x := x) (y := y) (z := 2 * D) hD hr (a := min x y) (b := max x y) (by omega) (by omega) D 1000000 0 s (by omega) hs (by omega)
  have key : f_MO_joined x y (2 * D) (D + 1) N = fr_MO_joined x y (2 * D) (D + 1) N 1000000 (2 * D) (min x y) (max x y) (if x = y + 1 ∨ y = x + 1 ∨ (min x y = 0 ∧ max x y = D + 2) then 1 else 0) 0 := by
    unfold f_MO_joined e_MO_joined j_MO_joined_10 j_MO_joined_22 j_MO_joined_49 j_MO_joined_53 j_MO_joined_54
    by_cases h : x < y
    · rw [iLt_t (by omega) (by omega) h, iLt_t (by omega) (by omega) h, iA_n (by omega), iA_n (by omega), show min x y = x by omega, show max x y = y by omega]
      by_cases h1 : y = x + 1
      · rw [if_pos (by omega), h1, iEq_t]
      · rw [iEq_f (by omega) (by omega) h1]
        by_cases h2 : x = 0
        · rw [h2, iEq_t]
          by_cases h3 : y = D + 2
          · rw [if_pos (by omega), h3, iEq_t]
          · rw [iEq_f (by omega) (by omega) (by omega), if_neg (by omega)]
        · rw [iEq_f (by omega) (by omega) h2, if_neg (by omega)]
    · rw [iLt_f (by omega) (by omega) (by omega), iLt_f (by omega) (by omega) (by omega), iA_n (by omega), iA_n (by omega), show min x y = y by omega, show max x y = x by omega]
      by_cases h1 : x = y + 1
      · rw [if_pos (by omega), h1, iEq_t]
      · rw [iEq_f (by omega) (by omega) h1]
        by_cases h2 : y = 0
        · rw [h2, iEq_t]
          by_cases h3 : x = D + 2
          · rw [if_pos (by omega), h3, iEq_t]
          · rw [iEq_f (by omega) (by omega) (by omega), if_neg (by omega)]
        · rw [iEq_f (by omega) (by omega) h2, if_neg (by omega)]
  rw [key]
  by_cases h : x = y + 1 ∨ y = x + 1 ∨ (min x y = 0 ∧ max x y = D + 2)
  · rw [if_pos h]
    refine ⟨fun _ => (g 1 (by omega)).1 (Or.inl rfl), fun hn => ?_⟩
    exfalso
    apply hn
    rcases h with h | h | h
    · exact Or.inl h
    · exact Or.inr (Or.inl h)
    · exact Or.inr (Or.inr (Or.inl h))
  · rw [if_neg h]
    refine ⟨fun hj => (g 0 (by omega)).1 (Or.inr ?_), fun hj => (g 0 (by omega)).2 (fun q => ?_)⟩
    · rcases hj with q | q | q | ⟨e, q1, q2⟩
      · exact absurd (Or.inl q) h
      · exact absurd (Or.inr (Or.inl q)) h
      · exact absurd (Or.inr (Or.inr q)) h
      · exact ⟨e, Nat.zero_le _, q1, q2⟩
    · rcases q with q | ⟨e, _, q1, q2⟩
      · omega
      · exact hj (Or.inr (Or.inr (Or.inr ⟨e, q1, q2⟩)))
/-- the corners joined with both ends of a diagonal -/
def cmn (D Q i j a b : Nat) : Prop := ∀ x, x ≤ D + 2 → ((jn D Q x i ∧ jn D Q x j) ↔ (x = a ∨ x = b))
theorem ex_go {L H Q D d i j a b zl zh x0 : Nat} (hD : D ≤ 9) (hr : rpL L H Q D) (hc : ∀ e, e < D → ag Q e < 300) (hd : d < D) (hi : ag L d = i + 1) (hj : ag H d = j + 1) (hi2 : i < 16) (hj2 : j < 16) (hab : a < b) (hb : b ≤ D + 2) (hm : cmn D Q i j a b) : ∀ r fuel l4, l4 + r = D + 3 → r < fuel → fr_TR_exchange x0 zl zh D fuel d (if a < l4 then a else 4294967295) (if b < l4 then b else if a < l4 then a else 4294967295) l4 L H = some (aw L d a, aw H d b) := by
  intro r
  induction r with
  | zero =>
    intro fuel l4 hl hf
    obtain ⟨m, rfl⟩ : ∃ m, fuel = m + 1 := ⟨fuel - 1, by omega⟩
    rw [frs_TR_exchange_7]
    unfold b_TR_exchange_7 f_TR_lastCorner
    simp only [ob_s]
    rw [iA_n (by omega), iLt_t (by omega) (by omega) (by omega), bl_t (by omega), bl_t (by omega), if_pos (by omega), if_pos (by omega)]
  | succ r ih =>
    intro fuel l4 hl hf
    obtain ⟨m, rfl⟩ : ∃ m, fuel = m + 1 := ⟨fuel - 1, by omega⟩
    have g := ih m (l4 + 1) (by omega) (by omega)
    have hx := hm l4 (by omega)
    have ji := tr_joined hD hr hc (x := l4) (y := i) (by omega) hi2
    have jj := tr_joined hD hr hc (x := l4) (y := j) (by omega) hj2
    have skip : ¬ (l4 = a ∨ l4 = b) → j_TR_exchange_61 (fr_TR_exchange x0 zl zh D m) x0 zl zh D d (if a < l4 then a else 4294967295) (if b < l4 then b else if a < l4 then a else 4294967295) l4 L H = some (aw L d a, aw H d b) := fun hn => by
      unfold j_TR_exchange_61
      rw [fz_eq, iA_n (by omega)]
      have e1 : (if a < l4 then a else 4294967295) = (if a < l4 + 1 then a else 4294967295) := by
        by_cases h : a < l4
        · rw [if_pos h, if_pos (by omega)]
        · rw [if_neg h, if_neg (by omega)]
      have e2 : (if b < l4 then b else if a < l4 then a else 4294967295) = (if b < l4 + 1 then b else if a < l4 + 1 then a else 4294967295) := by
        by_cases h : b < l4
        · rw [if_pos h, if_pos (by omega)]
        · rw [if_neg h, if_neg (show ¬ b < l4 + 1 by omega), e1]
      rw [e2, e1]
      exact g
    rw [frs_TR_exchange_7]
    unfold b_TR_exchange_7 f_TR_lastCorner
    simp only [ob_s]
    rw [iA_n (by omega), iLt_f (by omega) (by omega) (by omega), rd_k hi (by omega)]
    by_cases h1 : jn D Q l4 i
    · rw [ji.1 h1]
      simp only [ob_s]
      rw [iEq_f (by omega) (by omega) (by omega), rd_k hj (by omega)]
      by_cases h2 : jn D Q l4 j
      · rw [jj.1 h2]
        simp only [ob_s]
        rw [iEq_f (by omega) (by omega) (by omega)]
        unfold j_TR_exchange_57 j_TR_exchange_61
        rw [fz_eq, iA_n (by omega)]
        rcases hx.1 ⟨h1, h2⟩ with h | h
        · subst h
          rw [if_neg (show ¬ l4 < l4 by omega), iEq_t]
          rw [if_pos (show l4 < l4 + 1 by omega), if_neg (show ¬ b < l4 + 1 by omega)] at g
          exact g
        · subst h
          rw [if_pos hab, iEq_f (by omega) (by omega) (by omega)]
          rw [if_pos (show a < l4 + 1 by omega), if_pos (show l4 < l4 + 1 by omega)] at g
          exact g
      · rw [jj.2 h2]
        simp only [ob_s]
        rw [iEq_t]
        exact skip (fun q => h2 (hx.2 q).2)
    · rw [ji.2 h1]
      simp only [ob_s]
      rw [iEq_t]
      exact skip (fun q => h1 (hx.2 q).1)
theorem tr_exchange {L H Q D d i j a b : Nat} (hD : D ≤ 9) (hr : rpL L H Q D) (hc : ∀ e, e < D → ag Q e < 300) (hd : d < D) (hi : ag L d = i + 1) (hj : ag H d = j + 1) (hi2 : i < 16) (hj2 : j < 16) (hab : a < b) (hb : b ≤ D + 2) (hm : cmn D Q i j a b) : f_TR_exchange d L H D = some (aw L d a, aw H d b) := by
  unfold f_TR_exchange e_TR_exchange
  have g := ex_go (zl := L) (zh := H) (x0 := d) hD hr hc hd hi hj hi2 hj2 hab hb hm (D + 3) 1000000 0 (by omega) (by omega)
  rw [if_neg (show ¬ a < 0 by omega), if_neg (show ¬ b < 0 by omega)] at g
  exact g
theorem co_go {N Q n D i j bt t x0 x1 x2 x3 : Nat} (hD : D ≤ 9) (hn : n = D + 1) (hr : rp N Q D) (hi : i < 16) (hj : j < 16) (hbt : bt < 2) (ht : t ≤ D + 2) (hm : ∀ x, x ≤ D + 2 → ((x ≠ i ∧ x ≠ j ∧ ((i < x ∧ x < j) ↔ bt = 1) ∧ jn D Q x i ∧ jn D Q x j) ↔ x = t)) : ∀ r fuel l6, l6 + r = D + 3 → r < fuel → fr_MO_corner x0 x1 x2 x3 n N fuel i j bt (2 * D) (if t < l6 then t else 4294967295) l6 = some t := by
  intro r
  induction r with
  | zero =>
    intro fuel l6 hl hf
    obtain ⟨m, rfl⟩ : ∃ m, fuel = m + 1 := ⟨fuel - 1, by omega⟩
    rw [frs_MO_corner_6]
    unfold b_MO_corner_6
    rw [iA_n (by omega), iLt_t (by omega) (by omega) (by omega), if_pos (by omega)]
  | succ r ih =>
    intro fuel l6 hl hf
    obtain ⟨m, rfl⟩ : ∃ m, fuel = m + 1 := ⟨fuel - 1, by omega⟩
    have g := ih m (l6 + 1) (by omega) (by omega)
    have hx := hm l6 (by omega)
    have ji := mo_joined hD hn hr (x := l6) (y := i) (by omega) hi
    have jj := mo_joined hD hn hr (x := l6) (y := j) (by omega) hj
    have j91 : l6 ≠ t → j_MO_corner_91 (fr_MO_corner x0 x1 x2 x3 n N m) x0 x1 x2 x3 n N i j bt (2 * D) (if t < l6 then t else 4294967295) l6 = some t := fun hne => by
      unfold j_MO_corner_91 j_MO_corner_93
      rw [fz_eq, iA_n (by omega)]
      have e1 : (if t < l6 then t else 4294967295) = (if t < l6 + 1 then t else 4294967295) := by
        by_cases h : t < l6
        · rw [if_pos h, if_pos (by omega)]
        · rw [if_neg h, if_neg (by omega)]
      rw [e1]
      exact g
    have j54 : l6 ≠ t → j_MO_corner_54 (fr_MO_corner x0 x1 x2 x3 n N m) x0 x1 x2 x3 n N i j bt (2 * D) (if t < l6 then t else 4294967295) l6 = some t := fun hne => by
      unfold j_MO_corner_54 j_MO_corner_55
      rw [iEq_t]
      exact j91 hne
    have j55 : l6 ≠ i → l6 ≠ j → ((i < l6 ∧ l6 < j) ↔ bt = 1) → j_MO_corner_55 (fr_MO_corner x0 x1 x2 x3 n N m) x0 x1 x2 x3 n N i j bt (2 * D) (if t < l6 then t else 4294967295) l6 1 = some t := fun q1 q2 q3 => by
      unfold j_MO_corner_55
      rw [iEq_f (by omega) (by omega) (by omega)]
      by_cases h1 : jn D Q l6 i
      · rw [ji.1 h1]
        simp only [ob_s]
        rw [iEq_f (by omega) (by omega) (by omega)]
        by_cases h2 : jn D Q l6 j
        · rw [jj.1 h2]
          simp only [ob_s]
          rw [iEq_f (by omega) (by omega) (by omega)]
          have h := hx.1 ⟨q1, q2, q3, h1, h2⟩
          unfold j_MO_corner_93
          rw [fz_eq, iA_n (by omega)]
          rw [if_pos (by omega), ← h] at g
          exact g.trans (by rw [h])
        · rw [jj.2 h2]
          simp only [ob_s]
          rw [iEq_t]
          exact j91 (fun q => h2 (hx.2 q).2.2.2.2)
      · rw [ji.2 h1]
        simp only [ob_s]
        rw [iEq_t]
        exact j91 (fun q => h1 (hx.2 q).2.2.2.1)
    have j46 : ∀ s, s < 2 → l6 ≠ i → l6 ≠ j → ((i < l6 ∧ l6 < j) ↔ s = 1) → j_MO_corner_46 (fr_MO_corner x0 x1 x2 x3 n N m) x0 x1 x2 x3 n N i j bt (2 * D) (if t < l6 then t else 4294967295) l6 s = some t := fun s hs q1 q2 q3 => by
      unfold j_MO_corner_46
      by_cases h : s = bt
      · rw [h, iEq_t]
        exact j55 q1 q2 (by rw [q3, h])
      · rw [iEq_f (by omega) (by omega) h]
        refine j54 (fun q => ?_)
        have q5 := (hx.2 q).2.2.1
        by_cases h9 : i < l6 ∧ l6 < j
        · have := q3.1 h9
          have := q5.1 h9
          omega
        · have := fun e => h9 (q3.2 e)
          have := fun e => h9 (q5.2 e)
          omega
    rw [frs_MO_corner_6]
    unfold b_MO_corner_6
    rw [iA_n (by omega), iLt_f (by omega) (by omega) (by omega)]
    by_cases h1 : l6 = i
    · rw [iEq_te h1]
      exact j54 (fun q => (hx.2 q).1 h1)
    · rw [iEq_f (by omega) (by omega) h1]
      by_cases h2 : l6 = j
      · rw [iEq_te h2]
        exact j54 (fun q => (hx.2 q).2.1 h2)
      · rw [iEq_f (by omega) (by omega) h2]
        by_cases h3 : i < l6
        · rw [iLt_t (by omega) (by omega) h3]
          by_cases h4 : l6 < j
          · rw [iLt_t (by omega) (by omega) h4]
            exact j46 1 (by omega) h1 h2 (by omega)
          · rw [iLt_f (by omega) (by omega) (by omega)]
            unfold j_MO_corner_45
            exact j46 0 (by omega) h1 h2 (by omega)
        · rw [iLt_f (by omega) (by omega) (by omega)]
          unfold j_MO_corner_45
          exact j46 0 (by omega) h1 h2 (by omega)
theorem mo_corner {N Q n D i j bt t : Nat} (hD : D ≤ 9) (hn : n = D + 1) (hr : rp N Q D) (hi : i < 16) (hj : j < 16) (hbt : bt < 2) (ht : t ≤ D + 2) (hm : ∀ x, x ≤ D + 2 → ((x ≠ i ∧ x ≠ j ∧ ((i < x ∧ x < j) ↔ bt = 1) ∧ jn D Q x i ∧ jn D Q x j) ↔ x = t)) : f_MO_corner i j bt (2 * D) n N = some t := by
  unfold f_MO_corner e_MO_corner
  have g := co_go (x0 := i) (x1 := j) (x2 := bt) (x3 := 2 * D) hD hn hr hi hj hbt ht hm (D + 3) 1000000 0 (by omega) (by omega)
  rw [if_neg (by omega)] at g
  exact g
