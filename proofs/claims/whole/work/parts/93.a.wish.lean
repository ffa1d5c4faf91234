/-! wishes: codes put into their order -/
noncomputable def insN (c : Nat) : Nat → Nat → Nat := fun m => Nat.rec (motive := fun _ => Nat → Nat) (fun Q => aw Q 0 c) (fun m ih Q => bif Nat.blt (Nat.succ c) (ag Q m) then fz (aw Q (Nat.succ m) (Nat.sub (ag Q m) 1)) (fun Q2 => ih Q2) else aw Q (Nat.succ m) c) m
theorem insN_0 (c Q : Nat) : insN c 0 Q = aw Q 0 c := rfl
theorem insN_t {c m Q : Nat} (h : c + 1 < ag Q m) : insN c (m + 1) Q = insN c m (aw Q (m + 1) (ag Q m - 1)) := by
  show (bif Nat.blt (Nat.succ c) (ag Q m) then fz (aw Q (Nat.succ m) (Nat.sub (ag Q m) 1)) (fun Q2 => insN c m Q2) else aw Q (Nat.succ m) c) = _
  rw [bl_t h, fz_eq]
  rfl
theorem insN_f {c m Q : Nat} (h : ag Q m ≤ c + 1) : insN c (m + 1) Q = aw Q (m + 1) c := by
  show (bif Nat.blt (Nat.succ c) (ag Q m) then fz (aw Q (Nat.succ m) (Nat.sub (ag Q m) 1)) (fun Q2 => insN c m Q2) else aw Q (Nat.succ m) c) = _
  rw [bl_f h]
/-- the entry e of the wishes W says the code at e of Q -/
def rq1 (W Q e : Nat) : Prop := ∃ c, c < 256 ∧ ag Q e = c + 1 ∧ ag W (2 * e) = c / 16 + 1 ∧ ag W (2 * e + 1) = c % 16 + 1
theorem rq1_aw {W Q e m c : Nat} (hc : c < 256) (h : e ≠ m → rq1 W Q e) : rq1 (aw (aw W (2 * m) (c / 16)) (2 * m + 1) (c % 16)) (aw Q m c) e := by
  by_cases he : e = m
  · subst he
    refine ⟨c, hc, ?_, ?_, ?_⟩
    · rw [ag_aw, if_pos rfl, Nat.mod_eq_of_lt (by omega)]
    · rw [ag_aw, if_neg (by omega), ag_aw, if_pos rfl, Nat.mod_eq_of_lt (by omega)]
    · rw [ag_aw, if_pos rfl, Nat.mod_eq_of_lt (by omega)]
  · obtain ⟨d, h1, h2, h3, h4⟩ := h he
    refine ⟨d, h1, ?_, ?_, ?_⟩
    · rw [ag_aw, if_neg (by omega), h2]
    · rw [ag_aw, if_neg (by omega), ag_aw, if_neg (by omega), h3]
    · rw [ag_aw, if_neg (by omega), ag_aw, if_neg (by omega), h4]
theorem iA_m2 {a : Nat} (h : 2 ≤ a) (h2 : a < 4294967296) : iA a 4294967294 = a - 2 := by
  rw [iA_eq, show a + 4294967294 = (a - 2) + 4294967296 by omega, Nat.add_mod_right, Nat.mod_eq_of_lt (by omega)]
theorem ws_go {x0 x1 x2 z c M : Nat} (hc : c < 256) (hM : M ≤ 9) : ∀ m fuel W Q, m ≤ M → m < fuel → (∀ e, e ≤ M → e ≠ m → rq1 W Q e) → ∃ W2, fr_MO_wish x0 x1 x2 z fuel (c / 16) (c % 16) (2 * m) W = some W2 ∧ ∀ e, e ≤ M → rq1 W2 (insN c m Q) e := by
  intro m
  induction m with
  | zero =>
    intro fuel W Q hm hf hr
    obtain ⟨f, rfl⟩ : ∃ f, fuel = f + 1 := ⟨fuel - 1, by omega⟩
    refine ⟨aw (aw W (2 * 0) (c / 16)) (2 * 0 + 1) (c % 16), ?_, fun e he => ?_⟩
    · rw [frs_MO_wish_27]
      unfold b_MO_wish_27 j_MO_wish_114
      rw [iLt_f (by omega) (by omega) (by omega), iA_n (by omega), bl_t (by omega), bl_t (by omega)]
    · rw [insN_0]
      exact rq1_aw hc (hr e he)
  | succ m ih =>
    intro fuel W Q hm hf hr
    obtain ⟨f, rfl⟩ : ∃ f, fuel = f + 1 := ⟨fuel - 1, by omega⟩
    obtain ⟨d, hd, eQ, eL, eH⟩ := hr m (by omega) (by omega)
    have stop : d ≤ c → j_MO_wish_114 (fr_MO_wish x0 x1 x2 z f) x0 x1 x2 z (c / 16) (c % 16) (2 * (m + 1)) W = some (aw (aw W (2 * (m + 1)) (c / 16)) (2 * (m + 1) + 1) (c % 16)) := fun _ => by
      unfold j_MO_wish_114
      rw [iA_n (by omega), bl_t (by omega), bl_t (by omega)]
    have stopR : d ≤ c → ∀ e, e ≤ M → rq1 (aw (aw W (2 * (m + 1)) (c / 16)) (2 * (m + 1) + 1) (c % 16)) (insN c (m + 1) Q) e := fun h e he => by
      rw [insN_f (by omega)]
      exact rq1_aw hc (hr e he)
    have shift : c < d → ∃ W2, j_MO_wish_74 (fr_MO_wish x0 x1 x2 z f) x0 x1 x2 z (c / 16) (c % 16) (2 * (m + 1)) W = some W2 ∧ ∀ e, e ≤ M → rq1 W2 (insN c (m + 1) Q) e := fun h => by
      rw [insN_t (by omega), eQ, Nat.add_sub_cancel]
      unfold j_MO_wish_74
      rw [iS_n (by omega) (by omega), iS_n (by omega) (by omega), show 2 * (m + 1) - 2 = 2 * m by omega, show 2 * (m + 1) - 1 = 2 * m + 1 by omega, rd_k eL (by omega), bl_t (by omega), rd_k (by rw [ag_aw, if_neg (by omega)]; exact eH : ag (aw W (2 * (m + 1)) (d / 16)) (2 * m + 1) = d % 16 + 1) (by omega), iA_n (by omega), bl_t (by omega), fz_eq, fz_eq, iA_m2 (by omega) (by omega), show 2 * (m + 1) - 2 = 2 * m by omega]
      refine ih f _ _ (by omega) (by omega) (fun e he hne => ?_)
      exact rq1_aw hd (hr e he)
    rw [frs_MO_wish_27]
    unfold b_MO_wish_27
    rw [iLt_t (by omega) (by omega) (by omega), iS_n (by omega) (by omega), iS_n (by omega) (by omega), show 2 * (m + 1) - 2 = 2 * m by omega, show 2 * (m + 1) - 1 = 2 * m + 1 by omega, rd_k eL (by omega)]
    by_cases h1 : c / 16 < d / 16
    · rw [iLt_t (by omega) (by omega) h1]
      exact shift (by omega)
    · rw [iLt_f (by omega) (by omega) (by omega), rd_k eL (by omega)]
      by_cases h2 : d / 16 = c / 16
      · rw [h2, iEq_t, rd_k eH (by omega)]
        by_cases h3 : c % 16 < d % 16
        · rw [iLt_t (by omega) (by omega) h3]
          exact shift (by omega)
        · rw [iLt_f (by omega) (by omega) (by omega), stop (by omega)]
          exact ⟨_, rfl, stopR (by omega)⟩
      · rw [iEq_f (by omega) (by omega) h2, stop (by omega)]
        exact ⟨_, rfl, stopR (by omega)⟩
theorem mo_wish {W Q m x y : Nat} (hm : m ≤ 9) (hx : x < 16) (hy : y < 16) (hr : ∀ e, e < m → rq1 W Q e) : ∃ W2, f_MO_wish x y (2 * m) W = some W2 ∧ ∀ e, e < m + 1 → rq1 W2 (insN (16 * min x y + max x y) m Q) e := by
  obtain ⟨W2, e, g⟩ := ws_go (x0 := x) (x1 := y) (x2 := 2 * m) (z := W) (c := 16 * min x y + max x y) (M := m) (by omega) hm m 1000000 W Q (Nat.le_refl _) (by omega) (fun e he hne => hr e (by omega))
  refine ⟨W2, ?_, fun e he => g e (by omega)⟩
  unfold f_MO_wish e_MO_wish j_MO_wish_10 j_MO_wish_22
  rw [show (16 * min x y + max x y) / 16 = min x y by omega, show (16 * min x y + max x y) % 16 = max x y by omega] at e
  by_cases h : x < y
  · rw [iLt_t (by omega) (by omega) h, iLt_t (by omega) (by omega) h]
    rw [show min x y = x by omega, show max x y = y by omega] at e
    exact e
  · rw [iLt_f (by omega) (by omega) (by omega), iLt_f (by omega) (by omega) (by omega)]
    rw [show min x y = y by omega, show max x y = x by omega] at e
    exact e
/-! how many codes begin below x -/
noncomputable def ctQ (Q x : Nat) : Nat → Nat := fun m => Nat.rec 0 (fun e s => s + (if (ag Q e - 1) / 16 < x then 1 else 0)) m
theorem ctQ_s (Q x m : Nat) : ctQ Q x (m + 1) = ctQ Q x m + (if (ag Q m - 1) / 16 < x then 1 else 0) := rfl
theorem ctQ_eq {Q Q2 x : Nat} (m : Nat) (h : ∀ e, e < m → ag Q e = ag Q2 e) : ctQ Q x m = ctQ Q2 x m := by
  induction m with
  | zero => rfl
  | succ m ih => rw [ctQ_s, ctQ_s, ih (fun e he => h e (by omega)), h m (by omega)]
theorem insN_hi (c : Nat) : ∀ m Q e, m < e → ag (insN c m Q) e = ag Q e := by
  intro m
  induction m with
  | zero =>
    intro Q e he
    rw [insN_0, ag_aw, if_neg (by omega)]
  | succ m ih =>
    intro Q e he
    by_cases h : c + 1 < ag Q m
    · rw [insN_t h, ih _ _ (by omega), ag_aw, if_neg (by omega)]
    · rw [insN_f (by omega), ag_aw, if_neg (by omega)]
theorem ctQ_ins (c x : Nat) (hc : c < 256) : ∀ m Q, (∀ e, e < m → 0 < ag Q e ∧ ag Q e ≤ 256) → ctQ (insN c m Q) x (m + 1) = ctQ Q x m + (if c / 16 < x then 1 else 0) := by
  intro m
  induction m with
  | zero =>
    intro Q _
    rw [insN_0, ctQ_s, ag_aw, if_pos rfl, Nat.mod_eq_of_lt (by omega), Nat.add_sub_cancel]
    rfl
  | succ m ih =>
    intro Q hq
    obtain ⟨q1, q2⟩ := hq m (by omega)
    by_cases h : c + 1 < ag Q m
    · rw [insN_t h, ctQ_s, insN_hi c m _ _ (by omega), ag_aw, if_pos rfl, Nat.mod_eq_of_lt (by omega), Nat.add_sub_cancel, ih _ (fun e he => by rw [ag_aw, if_neg (by omega)]; exact hq e (by omega)), ctQ_s, ctQ_eq (Q := aw Q (m + 1) (ag Q m - 1)) (Q2 := Q) m (fun e he => by rw [ag_aw, if_neg (by omega)])]
      omega
    · rw [insN_f (by omega), ctQ_s, ag_aw, if_pos rfl, Nat.mod_eq_of_lt (by omega), Nat.add_sub_cancel, ctQ_eq (Q := aw Q (m + 1) c) (Q2 := Q) (m + 1) (fun e he => by rw [ag_aw, if_neg (by omega)])]
/-! tell looks at the numbers of lows alone -/
theorem cn_ct {L Q x : Nat} (hx : x < 2147483648) : ∀ d a, (∀ e, e < a + d → ∃ c, c < 256 ∧ ag Q e = c + 1 ∧ ag L e = c / 16 + 1) → cn L x a d + ctQ Q x a = ctQ Q x (a + d) := by
  intro d
  induction d with
  | zero => intro a _; exact Nat.zero_add _
  | succ d ih =>
    intro a h
    obtain ⟨c, hc, e1, e2⟩ := h a (by omega)
    have g := ih (a + 1) (fun e he => h e (by omega))
    rw [ctQ_s, show a + 1 + d = a + (d + 1) by omega, e1, Nat.add_sub_cancel] at g
    rw [cn_s, e2, Nat.add_sub_cancel]
    by_cases h2 : c / 16 < x
    · rw [iLt_t (by omega) hx h2]
      rw [if_pos h2] at g
      omega
    · rw [iLt_f (by omega) hx (by omega)]
      rw [if_neg h2] at g
      omega
theorem cn_all {L Q x D : Nat} (hx : x < 2147483648) (h : ∀ e, e < D → ∃ c, c < 256 ∧ ag Q e = c + 1 ∧ ag L e = c / 16 + 1) : cn L x 0 D = ctQ Q x D := by
  have g := cn_ct (L := L) (Q := Q) hx D 0 (fun e he => h e (by omega))
  rw [Nat.zero_add] at g
  have : ctQ Q x 0 = 0 := rfl
  omega
theorem tell_eq {L L2 D c n : Nat} (h2 : n ≤ 9) (hD : D ≤ 9) (hL : kno L D) (hL2 : kno L2 D) (h : ∀ x, x ≤ n → cn L x 0 D = cn L2 x 0 D) : f_TR_tell L D c n = f_TR_tell L2 D c n := by
  have go : ∀ e fuel l2 C, l2 + e = n + 1 → e * 20 < fuel → fr_TR_tell L D c n fuel 0 l2 C 0 0 = fr_TR_tell L2 D c n fuel 0 l2 C 0 0 := by
    intro e
    induction e with
    | zero =>
      intro fuel l2 C hl hf
      obtain ⟨m, rfl⟩ : ∃ m, fuel = m + 1 := ⟨fuel - 1, by omega⟩
      rw [frs_TR_tell_2, frs_TR_tell_2]
      unfold b_TR_tell_2 f_WD_pairs
      simp only [ob_s]
      rw [iLt_t (by omega) (by omega) (by omega), iLt_t (by omega) (by omega) (by omega)]
    | succ e ih =>
      intro fuel l2 C hl hf
      obtain ⟨m, rfl⟩ : ∃ m, fuel = m + 1 := ⟨fuel - 1, by omega⟩
      rw [frs_TR_tell_2, frs_TR_tell_2]
      unfold b_TR_tell_2 f_WD_pairs
      simp only [ob_s]
      rw [iLt_f (by omega) (by omega) (by omega), iLt_f (by omega) (by omega) (by omega), tell_in hD hL (by omega) D m 1 0 C (by omega) (by omega) (by omega), tell_in hD hL2 (by omega) D m 1 0 C (by omega) (by omega) (by omega), h l2 (by omega)]
      cases f_WD_closeAfter (1 + cn L2 l2 0 D) C n with
      | none => rfl
      | some q =>
        simp only [ob_s]
        exact ih _ _ _ (by omega) (by omega)
  unfold f_TR_tell e_TR_tell
  exact go n 1000000 1 c (by omega) (by omega)
theorem read_tell {n N c a0 a1 a2 : Nat} (h1 : 1 ≤ n) (h2 : n ≤ 9) (hN : kno N (2 * n - 2)) : ∃ L H, (∀ e, e < n - 1 → ag L e = ag N (2 * e)) ∧ f_TR_read a0 a1 a2 N c n = Option.bind (f_TR_tell L (n - 1) c n) (fun q => some (L, H, n - 1, q)) := by
  have go : ∀ d fuel l3 L H, l3 + d = n - 1 → d < fuel → (∀ e, e < l3 → ag L e = ag N (2 * e)) → ∃ L2 H2, (∀ e, e < n - 1 → ag L2 e = ag N (2 * e)) ∧ fr_TR_read a0 a1 a2 N c n fuel l3 L H (n - 1) c = Option.bind (f_TR_tell L2 (n - 1) c n) (fun q => some (L2, H2, n - 1, q)) := by
    intro d
    induction d with
    | zero =>
      intro fuel l3 L H hl hf hL
      obtain ⟨m, rfl⟩ : ∃ m, fuel = m + 1 := ⟨fuel - 1, by omega⟩
      refine ⟨L, H, fun e he => hL e (by omega), ?_⟩
      rw [frs_TR_read_12]
      unfold b_TR_read_12
      rw [iLt_f (by omega) (by omega) (by omega)]
    | succ d ih =>
      intro fuel l3 L H hl hf hL
      obtain ⟨m, rfl⟩ : ∃ m, fuel = m + 1 := ⟨fuel - 1, by omega⟩
      obtain ⟨v, hv, hr⟩ := hN (2 * l3) (by omega)
      obtain ⟨u, hu, hs⟩ := hN (2 * l3 + 1) (by omega)
      rw [frs_TR_read_12]
      unfold b_TR_read_12
      rw [iLt_t (by omega) (by omega) (by omega), iM_n (by omega), iA_n (by omega), rd_k hr (by omega), bl_t (by omega), rd_k hs (by omega), bl_t (by omega), fz_eq, fz_eq, fz_eq, iA_n (by omega)]
      refine ih m (l3 + 1) _ _ (by omega) (by omega) (fun e he => ?_)
      rw [ag_aw]
      by_cases h : l3 = e
      · subst h
        rw [if_pos rfl, hr, Nat.mod_eq_of_lt hv]
      · rw [if_neg h]
        exact hL e (by omega)
  obtain ⟨L, H, g1, g2⟩ := go (n - 1) 1000000 0 a0 a1 (by omega) (by omega) (fun e he => by omega)
  refine ⟨L, H, g1, ?_⟩
  unfold f_TR_read e_TR_read f_WD_pairs
  simp only [ob_s]
  rw [fz_eq, iS_n (by omega) (by omega)]
  exact g2
/-- lows that are as many below each corner as those of the k-th word's diagonals tell the k-th word -/
theorem tell_k (hA : AllA) {n k L : Nat} (h1 : 1 ≤ n) (h2 : n ≤ 9) (hk : k < cat n) (hL : kno L (n - 1)) (h : ∀ x, x ≤ n → cn L x 0 (n - 1) = ctQ (tb n k) x (n - 1)) : f_TR_tell L (n - 1) c0 n = some (wC n k) := by
  obtain ⟨R, W, ⟨q, Q, eq⟩, hr, -⟩ := (a_all hA h1 h2 hk).2.2.2.2.1
  obtain ⟨L3, H3, g1, g2⟩ := read_tell (c := c0) (a0 := 0) (a1 := 0) (a2 := 0) h1 h2 R.2.2
  have e3 : ∀ e, e < n - 1 → ∃ c, c < 256 ∧ ag (tb n k) e = c + 1 ∧ ag L3 e = c / 16 + 1 := fun e he => by
    obtain ⟨c, q1, q2, q3, q4, q5⟩ := hr e he
    exact ⟨c, q2, q1, by rw [g1 e he, q4]⟩
  have hL3 : kno L3 (n - 1) := fun e he => by
    obtain ⟨c, q1, q2, q3⟩ := e3 e he
    exact ⟨c / 16, by omega, q3⟩
  rw [tell_eq h2 (by omega) hL hL3 (fun x hx => by rw [h x hx, cn_all (by omega) e3])]
  rw [g2] at Q
  cases ht : f_TR_tell L3 (n - 1) c0 n with
  | none => rw [ht] at Q; exact no_s Q
  | some t =>
    rw [ht] at Q
    have e := Option.some.inj Q
    subst e
    rw [← eq]
