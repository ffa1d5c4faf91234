/-! which corners are joined, as bits; the flip and the turn of a word, by codes -/
noncomputable def bs' (n : Nat) : Nat → Nat := fun m => Nat.rec (Nat.lor (Nat.pow 2 (Nat.succ n)) (Nat.pow 2 (Nat.mul 16 (Nat.succ n)))) (fun x A => Nat.lor A (Nat.lor (Nat.pow 2 (Nat.add (Nat.mul 17 x) 1)) (Nat.pow 2 (Nat.add (Nat.mul 17 x) 16)))) m
noncomputable def bs (n : Nat) : Nat := bs' n (Nat.succ n)
noncomputable def adj (b Q : Nat) : Nat → Nat := fun m => Nat.rec b (fun e A => fz (Nat.sub (ag Q e) 1) (fun c => Nat.lor A (Nat.lor (Nat.pow 2 c) (Nat.pow 2 (Nat.add (Nat.mul 16 (Nat.mod c 16)) (Nat.div c 16)))))) m
theorem bs'_s (n m : Nat) : bs' n (m + 1) = bs' n m ||| (2 ^ (17 * m + 1) ||| 2 ^ (17 * m + 16)) := rfl
theorem bs'_bit (n t : Nat) : ∀ m, (bs' n m).testBit t = true ↔ (t = n + 1 ∨ t = 16 * (n + 1) ∨ ∃ x, x < m ∧ (t = 17 * x + 1 ∨ t = 17 * x + 16)) := by
  intro m
  induction m with
  | zero =>
    show (2 ^ (n + 1) ||| 2 ^ (16 * (n + 1))).testBit t = true ↔ _
    rw [Nat.testBit_or, Nat.testBit_two_pow, Nat.testBit_two_pow, Bool.or_eq_true, decide_eq_true_eq, decide_eq_true_eq]
    constructor
    · rintro (h | h)
      · exact Or.inl h.symm
      · exact Or.inr (Or.inl h.symm)
    · rintro (h | h | ⟨x, hx, -⟩)
      · exact Or.inl h.symm
      · exact Or.inr h.symm
      · omega
  | succ m ih =>
    rw [bs'_s, Nat.testBit_or, Nat.testBit_or, Nat.testBit_two_pow, Nat.testBit_two_pow, Bool.or_eq_true, Bool.or_eq_true, decide_eq_true_eq, decide_eq_true_eq, ih]
    constructor
    · rintro ((h | h | ⟨x, hx, h⟩) | h | h)
      · exact Or.inl h
      · exact Or.inr (Or.inl h)
      · exact Or.inr (Or.inr ⟨x, by omega, h⟩)
      · exact Or.inr (Or.inr ⟨m, by omega, Or.inl h.symm⟩)
      · exact Or.inr (Or.inr ⟨m, by omega, Or.inr h.symm⟩)
    · rintro (h | h | ⟨x, hx, h⟩)
      · exact Or.inl (Or.inl h)
      · exact Or.inl (Or.inr (Or.inl h))
      · by_cases hm : x < m
        · exact Or.inl (Or.inr (Or.inr ⟨x, hm, h⟩))
        · obtain rfl : x = m := by omega
          rcases h with h | h
          · exact Or.inr (Or.inl h.symm)
          · exact Or.inr (Or.inr h.symm)
theorem adj_s (b Q m : Nat) : adj b Q (m + 1) = adj b Q m ||| (2 ^ (ag Q m - 1) ||| 2 ^ (16 * ((ag Q m - 1) % 16) + (ag Q m - 1) / 16)) := by
  show fz (Nat.sub (ag Q m) 1) (fun c => Nat.lor (adj b Q m) (Nat.lor (Nat.pow 2 c) (Nat.pow 2 (Nat.add (Nat.mul 16 (Nat.mod c 16)) (Nat.div c 16))))) = _
  rw [fz_eq]
  rfl
theorem adj_bit (b Q t : Nat) : ∀ m, (adj b Q m).testBit t = true ↔ (b.testBit t = true ∨ ∃ e, e < m ∧ (t = ag Q e - 1 ∨ t = 16 * ((ag Q e - 1) % 16) + (ag Q e - 1) / 16)) := by
  intro m
  induction m with
  | zero =>
    show b.testBit t = true ↔ _
    constructor
    · exact Or.inl
    · rintro (h | ⟨e, he, -⟩)
      · exact h
      · omega
  | succ m ih =>
    rw [adj_s, Nat.testBit_or, Nat.testBit_or, Nat.testBit_two_pow, Nat.testBit_two_pow, Bool.or_eq_true, Bool.or_eq_true, decide_eq_true_eq, decide_eq_true_eq, ih]
    constructor
    · rintro ((h | ⟨x, hx, h⟩) | h | h)
      · exact Or.inl h
      · exact Or.inr ⟨x, by omega, h⟩
      · exact Or.inr ⟨m, by omega, Or.inl h.symm⟩
      · exact Or.inr ⟨m, by omega, Or.inr h.symm⟩
    · rintro (h | ⟨x, hx, h⟩)
      · exact Or.inl (Or.inl h)
      · by_cases hm : x < m
        · exact Or.inl (Or.inr ⟨x, hm, h⟩)
        · obtain rfl : x = m := by omega
          rcases h with h | h
          · exact Or.inr (Or.inl h.symm)
          · exact Or.inr (Or.inr h.symm)
def cds (Q D : Nat) : Prop := ∀ e, e < D → ∃ c, ag Q e = c + 1 ∧ c < 256 ∧ c / 16 < c % 16
theorem jn_adj {Q D x y : Nat} (hD : D ≤ 9) (hq : cds Q D) (hx : x ≤ D + 2) (hy : y ≤ D + 2) : (adj (bs (D + 1)) Q D).testBit (16 * x + y) = true ↔ jn D Q x y := by
  rw [adj_bit]
  unfold bs
  rw [bs'_bit]
  unfold jn
  constructor
  · rintro ((h | h | ⟨z, hz, h⟩) | ⟨e, he, h⟩)
    · have u1 : x = 0 := by omega
      have u2 : y = D + 2 := by omega
      rw [u1, u2]
      exact Or.inr (Or.inr (Or.inl ⟨Nat.zero_min _, Nat.zero_max _⟩))
    · have u1 : y = 0 := by omega
      have u2 : x = D + 2 := by omega
      rw [u1, u2]
      exact Or.inr (Or.inr (Or.inl ⟨Nat.min_zero _, Nat.max_zero _⟩))
    · rcases h with h | h
      · exact Or.inr (Or.inl (by omega))
      · exact Or.inl (by omega)
    · obtain ⟨c, q1, q2, q3⟩ := hq e he
      rw [q1, Nat.add_sub_cancel] at h
      refine Or.inr (Or.inr (Or.inr ⟨e, he, ?_⟩))
      rw [q1]
      rcases h with h | h
      · have u1 : x = c / 16 := by omega
        have u2 : y = c % 16 := by omega
        rw [u1, u2, Nat.min_eq_left (by omega), Nat.max_eq_right (by omega)]
        omega
      · have u1 : x = c % 16 := by omega
        have u2 : y = c / 16 := by omega
        rw [u1, u2, Nat.min_eq_right (by omega), Nat.max_eq_left (by omega)]
        omega
  · rintro (h | h | h | ⟨e, he, h⟩)
    · exact Or.inl (Or.inr (Or.inr ⟨y, by omega, Or.inr (by omega)⟩))
    · exact Or.inl (Or.inr (Or.inr ⟨x, by omega, Or.inl (by omega)⟩))
    · by_cases h0 : x = 0
      · exact Or.inl (Or.inl (by omega))
      · exact Or.inl (Or.inr (Or.inl (by omega)))
    · obtain ⟨c, q1, q2, q3⟩ := hq e he
      refine Or.inr ⟨e, he, ?_⟩
      rw [q1] at h ⊢
      rw [Nat.add_sub_cancel]
      by_cases h0 : x < y
      · exact Or.inl (by omega)
      · exact Or.inr (by omega)
theorem jn_symm {D Q x y : Nat} : jn D Q x y ↔ jn D Q y x := by
  unfold jn
  rw [Nat.min_comm y x, Nat.max_comm y x]
  constructor
  · rintro (h | h | h)
    · exact Or.inr (Or.inl h)
    · exact Or.inl h
    · exact Or.inr (Or.inr h)
  · rintro (h | h | h)
    · exact Or.inr (Or.inl h)
    · exact Or.inl h
    · exact Or.inr (Or.inr h)
noncomputable def row (A i : Nat) : Nat := Nat.mod (Nat.shiftRight A (Nat.mul 16 i)) 65536
theorem row_bit {A i x : Nat} (hx : x < 16) : (row A i).testBit x = A.testBit (16 * i + x) := by
  show ((A >>> (16 * i)) % 2 ^ 16).testBit x = _
  rw [Nat.testBit_mod_two_pow, Nat.testBit_shiftRight, decide_eq_true hx, Bool.true_and]
theorem cmn_of {Q D i j a b : Nat} (hD : D ≤ 9) (hq : cds Q D) (hi : i ≤ D + 2) (hj : j ≤ D + 2) (h : Nat.land (row (adj (bs (D + 1)) Q D) i) (row (adj (bs (D + 1)) Q D) j) = Nat.lor (Nat.pow 2 a) (Nat.pow 2 b)) : cmn D Q i j a b := fun x hx => by
  have e := congrArg (fun z => z.testBit x) h
  have e2 : (row (adj (bs (D + 1)) Q D) i &&& row (adj (bs (D + 1)) Q D) j).testBit x = (2 ^ a ||| 2 ^ b).testBit x := e
  rw [Nat.testBit_and, row_bit (by omega), row_bit (by omega), Nat.testBit_or, Nat.testBit_two_pow, Nat.testBit_two_pow] at e2
  rw [jn_symm (x := x) (y := i), jn_symm (x := x) (y := j), ← jn_adj hD hq hi hx, ← jn_adj hD hq hj hx, ← Bool.and_eq_true, e2, Bool.or_eq_true, decide_eq_true_eq, decide_eq_true_eq]
  constructor
  · rintro (q | q)
    · exact Or.inl q.symm
    · exact Or.inr q.symm
  · rintro (q | q)
    · exact Or.inl q.symm
    · exact Or.inr q.symm
/-- the others' wishes, the d-th diagonal left out -/
noncomputable def flF (Q d : Nat) : Nat → Nat := fun m => Nat.rec 0 (fun e F => bif Nat.beq e d then F else fz F (fun F => insN (Nat.sub (ag Q e) 1) (Nat.sub e (bif Nat.blt d e then 1 else 0)) F)) m
def tx (d e : Nat) : Nat := if e ≤ d then e else e - 1
theorem flF_d (Q d : Nat) : flF Q d (d + 1) = flF Q d d := by
  show (bif Nat.beq d d then flF Q d d else _) = _
  rw [Nat.beq_refl]
  rfl
theorem flF_o {Q d e : Nat} (h : e ≠ d) : flF Q d (e + 1) = insN (ag Q e - 1) (tx d e) (flF Q d e) := by
  show (bif Nat.beq e d then flF Q d e else fz (flF Q d e) (fun F => insN (Nat.sub (ag Q e) 1) (Nat.sub e (bif Nat.blt d e then 1 else 0)) F)) = _
  have hb : Nat.beq e d = false := by
    cases hc : Nat.beq e d with
    | false => rfl
    | true => exact absurd (Nat.eq_of_beq_eq_true hc) h
  rw [hb]
  show fz (flF Q d e) (fun F => insN (Nat.sub (ag Q e) 1) (Nat.sub e (bif Nat.blt d e then 1 else 0)) F) = _
  rw [fz_eq]
  unfold tx
  by_cases h2 : d < e
  · rw [bl_t h2, if_neg (by omega)]
    rfl
  · rw [bl_f (by omega), if_pos (by omega)]
    rfl
theorem insN_rg {c : Nat} (hc : c < 256) : ∀ m Q, (∀ e, e < m → 0 < ag Q e ∧ ag Q e ≤ 256) → ∀ e, e < m + 1 → 0 < ag (insN c m Q) e ∧ ag (insN c m Q) e ≤ 256 := by
  intro m
  induction m with
  | zero =>
    intro Q _ e he
    rw [insN_0, ag_aw, if_pos (by omega), Nat.mod_eq_of_lt (by omega)]
    omega
  | succ m ih =>
    intro Q hq e he
    have hm := hq m (by omega)
    by_cases h : c + 1 < ag Q m
    · rw [insN_t h]
      by_cases he2 : e < m + 1
      · exact ih _ (fun t ht => by rw [ag_aw, if_neg (by omega)]; exact hq t (by omega)) e he2
      · rw [insN_hi c m _ _ (by omega), ag_aw, if_pos (by omega), Nat.mod_eq_of_lt (by omega)]
        omega
    · rw [insN_f (by omega), ag_aw]
      by_cases he2 : m + 1 = e
      · rw [if_pos he2, Nat.mod_eq_of_lt (by omega)]
        omega
      · rw [if_neg he2]
        exact hq e (by omega)
noncomputable def csk (Q x d : Nat) : Nat → Nat := fun m => Nat.rec 0 (fun e s => s + (if e = d then 0 else if (ag Q e - 1) / 16 < x then 1 else 0)) m
theorem csk_s (Q x d m : Nat) : csk Q x d (m + 1) = csk Q x d m + (if m = d then 0 else if (ag Q m - 1) / 16 < x then 1 else 0) := rfl
theorem flF_ct {Q d D : Nat} (hq : cds Q D) (x : Nat) : ∀ e, e ≤ D → (∀ t, t < tx d e → 0 < ag (flF Q d e) t ∧ ag (flF Q d e) t ≤ 256) ∧ ctQ (flF Q d e) x (tx d e) = csk Q x d e := by
  intro e
  induction e with
  | zero =>
    intro _
    have h0 : tx d 0 = 0 := by unfold tx; rw [if_pos (by omega)]
    rw [h0]
    exact ⟨fun t ht => by omega, rfl⟩
  | succ e ih =>
    intro he
    obtain ⟨i1, i2⟩ := ih (by omega)
    obtain ⟨c, q1, q2, q3⟩ := hq e (by omega)
    by_cases h : e = d
    · subst h
      have ht : tx e (e + 1) = tx e e := by
        unfold tx
        rw [if_neg (by omega), if_pos (by omega)]
        omega
      rw [flF_d, ht, csk_s, if_pos rfl, i2]
      exact ⟨i1, rfl⟩
    · have ht : tx d (e + 1) = tx d e + 1 := by
        unfold tx
        by_cases h2 : e + 1 ≤ d
        · rw [if_pos h2, if_pos (by omega)]
        · rw [if_neg h2, if_neg (by omega)]
          omega
      rw [flF_o h, ht, csk_s, if_neg h, q1, Nat.add_sub_cancel, ctQ_ins c x q2 _ _ i1, i2]
      exact ⟨insN_rg q2 _ _ i1, rfl⟩
theorem ctQ_aw {Q d c x : Nat} (hc : c < 256) : ∀ e, ctQ (aw Q d c) x e = csk Q x d e + (if d < e then (if c / 16 < x then 1 else 0) else 0) := by
  intro e
  induction e with
  | zero =>
    rw [if_neg (by omega)]
    rfl
  | succ e ih =>
    rw [ctQ_s, csk_s, ih, ag_aw]
    by_cases h : d = e
    · subst h
      rw [if_neg (Nat.lt_irrefl d), if_pos (Nat.lt_succ_self d), if_pos (Eq.refl d), if_pos (Eq.refl d), Nat.mod_eq_of_lt (by omega : c < 4294967296), Nat.add_sub_cancel]
    · rw [if_neg h, if_neg (show ¬ e = d from fun q => h q.symm)]
      by_cases h2 : d < e
      · rw [if_pos h2, if_pos (show d < e + 1 by omega)]
        exact Nat.add_right_comm _ _ _
      · rw [if_neg h2, if_neg (show ¬ d < e + 1 by omega), Nat.add_zero, Nat.add_zero]
theorem fl_go {x0 c n w tr sh wa lo hi op cl pi N Q d D l5 l6 cc ww tt : Nat} (hD : D ≤ 9) (hd : d < D) (hr : rp N Q D) : ∀ r fuel e W, e + r = D → r < fuel → (∀ t, t < tx d e → rq1 W (flF Q d e) t) → ∃ W2, (∀ t, t < D - 1 → rq1 W2 (flF Q d D) t) ∧ fr_MO_flipF x0 c n w tr sh wa lo hi op cl pi fuel d (2 * D) l5 l6 (2 * tx d e) (2 * e) cc ww tt N W = Option.bind (f_MO_wish l5 l6 (2 * (D - 1)) W2) (fun q12 => Option.bind (f_MO_findF_wanted 3 n ww tt N q12 0 0 0 0 0) (fun q13 => some (q13.1, cc, q13.2))) := by
  intro r
  induction r with
  | zero =>
    intro fuel e W hl hf hW
    obtain ⟨m, rfl⟩ : ∃ m, fuel = m + 1 := ⟨fuel - 1, by omega⟩
    obtain rfl : e = D := by omega
    have ht : tx d e = e - 1 := by
      unfold tx
      rw [if_neg (by omega)]
    refine ⟨W, fun t h => hW t (by omega), ?_⟩
    rw [frs_MO_flipF_97]
    unfold b_MO_flipF_97
    rw [iLt_f (by omega) (by omega) (by omega), ht]
  | succ r ih =>
    intro fuel e W hl hf hW
    obtain ⟨m, rfl⟩ : ∃ m, fuel = m + 1 := ⟨fuel - 1, by omega⟩
    obtain ⟨cd, q1, q2, q3, q4, q5⟩ := hr e (by omega)
    have htx : tx d e ≤ 9 := by
      unfold tx
      by_cases h : e ≤ d
      · rw [if_pos h]; omega
      · rw [if_neg h]; omega
    rw [frs_MO_flipF_97]
    unfold b_MO_flipF_97 j_MO_flipF_136
    rw [iLt_t (by omega) (by omega) (by omega), iM_n (by omega)]
    by_cases h : e = d
    · subst h
      have ht : tx e (e + 1) = tx e e := by
        unfold tx
        rw [if_neg (by omega), if_pos (by omega)]
        omega
      have g := ih m (e + 1) W (by omega) (by omega) (by rw [ht, flF_d]; exact hW)
      rw [iEq_t, fz_eq, iA_n (by omega)]
      rw [ht, show 2 * (e + 1) = 2 * e + 2 by omega] at g
      exact g
    · have ht : tx d (e + 1) = tx d e + 1 := by
        unfold tx
        by_cases h2 : e + 1 ≤ d
        · rw [if_pos h2, if_pos (by omega)]
        · rw [if_neg h2, if_neg (by omega)]
          omega
      obtain ⟨W2, e2, g2⟩ := mo_wish (x := cd / 16) (y := cd % 16) htx (by omega) (by omega) hW
      have g := ih m (e + 1) W2 (by omega) (by omega) (by
        rw [ht, flF_o h, q1, Nat.add_sub_cancel]
        rw [show 16 * min (cd / 16) (cd % 16) + max (cd / 16) (cd % 16) = cd by omega] at g2
        exact g2)
      rw [iEq_f (by omega) (by omega) (by omega), rd_k q4 (by omega), iA_n (by omega), rd_k q5 (by omega), e2]
      simp only [ob_s]
      rw [fz_eq, fz_eq, iA_n (by omega), iA_n (by omega)]
      rw [ht, show 2 * (e + 1) = 2 * e + 2 by omega, show 2 * (tx d e + 1) = 2 * tx d e + 2 by omega] at g
      exact g
theorem rq_ag {N W Q D : Nat} (hr : rp N Q D) (hq : ∀ t, t < D → rq1 W Q t) : ∀ t, t < 2 * D → ag W t = ag N t := fun t ht => by
  obtain ⟨c, q1, q2, q3, q4, q5⟩ := hr (t / 2) (by omega)
  obtain ⟨c2, p1, p2, p3, p4⟩ := hq (t / 2) (by omega)
  have : c2 = c := by omega
  subst this
  by_cases h : t % 2 = 0
  · have e : 2 * (t / 2) = t := by omega
    rw [e] at q4 p3
    rw [q4, p3]
  · have e : 2 * (t / 2) + 1 = t := by omega
    rw [e] at q5 p4
    rw [q5, p4]
theorem tr_dz (a b z d e : Nat) : f_TR_draw a b z d e = f_TR_draw a b 0 d e := by
  have h1 : ∀ k, fr_TR_draw a b z d e k = fr_TR_draw a b 0 d e k := fun _ => rfl
  unfold f_TR_draw e_TR_draw
  rw [h1]
theorem cw_adopt (hA : AllA) {n k : Nat} (h1 : 1 ≤ n) (h2 : n ≤ 9) (hk : k < cat n) : f_CW_adoptFinished 0 (wC n k) n = some (k, wB n k) := by
  unfold f_CW_adoptFinished f_CW_adoptDraft
  rw [(a_all hA h1 h2 hk).1]
  simp only [ob_s]
  rw [(w_all h1 h2 hk).2.1]
  rfl
noncomputable def orB (a b : Bool) : Bool := Bool.rec b true a
theorem orB_t {a b : Bool} (h : orB a b = true) : a = true ∨ b = true := by
  cases a with
  | false => exact Or.inr h
  | true => exact Or.inl rfl
/-- the tables of the flips (the new diagonal's code, 256 times the word's number) and of the turns are given; here is what is checked of them -/
noncomputable def ckX1 (n Q A d c2 k2 : Nat) : Bool := fz (Nat.sub (ag Q d) 1) (fun c => fz (Nat.div c 16) (fun i => fz (Nat.mod c 16) (fun j => fz (Nat.div c2 16) (fun a => fz (Nat.mod c2 16) (fun b => bnd (Nat.blt k2 (cat n)) (bnd (Nat.blt b (Nat.add n 2)) (bnd (Nat.blt j (Nat.add n 2)) (bnd (orB (bnd (Nat.blt i a) (bnd (Nat.blt a j) (Nat.blt j b))) (bnd (Nat.blt a i) (bnd (Nat.blt i b) (Nat.blt b j)))) (bnd (Nat.beq (Nat.land (row A i) (row A j)) (Nat.lor (Nat.pow 2 a) (Nat.pow 2 b))) (Nat.beq (insN c2 (Nat.sub n 2) (flF Q d (Nat.sub n 1))) (tb n k2)))))))))))
noncomputable def kt (n k d : Nat) : Nat := Nat.mod (Nat.shiftRight (KT n) (Nat.mul 24 (Nat.add (Nat.mul 8 k) d))) 16777216
noncomputable def ckX (n k : Nat) : Bool := fz (tb n k) (fun Q => fz (adj (bs n) Q (Nat.sub n 1)) (fun A => alB (fun d => fz (kt n k d) (fun t => fz (Nat.mod t 256) (fun c2 => fz (Nat.div t 256) (fun k2 => ckX1 n Q A d c2 k2)))) 0 (Nat.sub n 1)))
def AllX : Prop := ∀ n k : Nat, 1 ≤ n → n ≤ 9 → k < cat n → ckX n k = true
theorem jC_lt {x m : Nat} (hx : x < 2147483648) (hm : m < 2147483648) : iLt (jC (jM 2 (jX x)) (jX m)) 0 = Nat.blt (2 * x) m := by
  rw [jX_eq, jX_eq, Nat.mod_eq_of_lt (by omega), Nat.mod_eq_of_lt (by omega), if_pos hx, if_pos hm, jM_eq, Nat.mod_eq_of_lt (by omega)]
  unfold jC jLt
  rw [fz_eq, fz_eq, fz_eq, fz_eq]
  show iLt (bif Nat.blt ((m + 9223372036854775808) % 18446744073709551616) ((2 * x + 9223372036854775808) % 18446744073709551616) then 1 else bif Nat.blt ((2 * x + 9223372036854775808) % 18446744073709551616) ((m + 9223372036854775808) % 18446744073709551616) then 4294967295 else 0) 0 = _
  rw [Nat.mod_eq_of_lt (by omega), Nat.mod_eq_of_lt (by omega)]
  by_cases h : 2 * x < m
  · rw [bl_f (by omega), bl_t (by omega)]
    have : Nat.blt (2 * x) m = true := Nat.blt_eq.mpr h
    rw [this]
    decide
  · have : Nat.blt (2 * x) m = false := by
      cases hb : Nat.blt (2 * x) m with
      | false => rfl
      | true => exact absurd (Nat.blt_eq.mp hb) h
    rw [this]
    by_cases h2 : m < 2 * x
    · rw [bl_t (by omega)]
      decide
    · rw [bl_f (by omega), bl_f (by omega)]
      decide
theorem facts_flip (hA : AllA) (hX : AllX) : F_flip wB wC cat := by
  intro n k x h1 h2 hk hx
  have hc := cat_le h1 h2
  obtain ⟨R, W, -, hr, L, H, hdr, hr2⟩ := (a_all hA h1 h2 hk).2.2.2.2.1
  obtain ⟨⟨y, eW⟩, -⟩ := R
  by_cases hd : x < n - 1
  · have hcx := hX n k h1 h2 hk
    unfold ckX at hcx
    rw [fz_eq, fz_eq] at hcx
    have h3 := (upTo.z _).ext (a := 0) (m := Nat.sub n 1) hcx x (by show x < 0 + (n - 1); omega)
    have h4 : fz (kt n k x) (fun t => fz (Nat.mod t 256) (fun c2 => fz (Nat.div t 256) (fun k2 => ckX1 n (tb n k) (adj (bs n) (tb n k) (Nat.sub n 1)) x c2 k2))) = true := h3
    rw [fz_eq, fz_eq, fz_eq] at h4
    have hc2 : Nat.mod (kt n k x) 256 < 256 := Nat.mod_lt _ (by omega)
    generalize Nat.mod (kt n k x) 256 = c2 at h4 hc2
    generalize Nat.div (kt n k x) 256 = k2 at h4
    unfold ckX1 at h4
    rw [fz_eq, fz_eq, fz_eq, fz_eq, fz_eq] at h4
    obtain ⟨g1, h4⟩ := bnd_t h4
    obtain ⟨g2, h4⟩ := bnd_t h4
    obtain ⟨g3, h4⟩ := bnd_t h4
    obtain ⟨g4, h4⟩ := bnd_t h4
    obtain ⟨g5, g6⟩ := bnd_t h4
    have hk2 : k2 < cat n := Nat.blt_eq.mp g1
    have hb : c2 % 16 < n + 2 := Nat.blt_eq.mp g2
    obtain ⟨c, q1, q2, q3, q4, q5⟩ := hr x hd
    obtain ⟨c', p1, p2, p3⟩ := hr2 x hd
    have : c' = c := by omega
    subst this
    have eS : Nat.sub (ag (tb n k) x) 1 = c' := by
      show ag (tb n k) x - 1 = c'
      omega
    rw [eS] at g3 g4 g5
    have hj : c' % 16 < n + 2 := Nat.blt_eq.mp g3
    have hside : (c' / 16 < c2 / 16 ∧ c2 / 16 < c' % 16 ∧ c' % 16 < c2 % 16) ∨ (c2 / 16 < c' / 16 ∧ c' / 16 < c2 % 16 ∧ c2 % 16 < c' % 16) := by
      rcases orB_t g4 with g | g
      · obtain ⟨a1, a2⟩ := bnd_t g
        obtain ⟨a2, a3⟩ := bnd_t a2
        exact Or.inl ⟨Nat.blt_eq.mp a1, Nat.blt_eq.mp a2, Nat.blt_eq.mp a3⟩
      · obtain ⟨a1, a2⟩ := bnd_t g
        obtain ⟨a2, a3⟩ := bnd_t a2
        exact Or.inr ⟨Nat.blt_eq.mp a1, Nat.blt_eq.mp a2, Nat.blt_eq.mp a3⟩
    have hcds : cds (tb n k) (n - 1) := fun e he => by
      obtain ⟨c, q1, q2, q3, -⟩ := hr e he
      exact ⟨c, q1, q2, q3⟩
    have hlt : ∀ e, e < n - 1 → ag (tb n k) e < 300 := fun e he => by
      obtain ⟨c, q1, q2, -⟩ := hcds e he
      omega
    have hm : cmn (n - 1) (tb n k) (c' / 16) (c' % 16) (c2 / 16) (c2 % 16) := by
      refine cmn_of (by omega) hcds (by omega) (by omega) ?_
      rw [show n - 1 + 1 = n by omega]
      exact Nat.eq_of_beq_eq_true g5
    have hT : insN c2 (n - 1 - 1) (flF (tb n k) x (n - 1)) = tb n k2 := by
      have e := Nat.eq_of_beq_eq_true g6
      exact e
    -- the class
    have hex := tr_exchange (by omega) hr2 hlt hd p2 p3 (by omega) (by omega) (by omega) (by omega) hm
    obtain ⟨f1, f2⟩ := flF_ct (d := x) hcds 0 (n - 1) (Nat.le_refl _)
    have htx : tx x (n - 1) = n - 1 - 1 := by
      unfold tx
      rw [if_neg (by omega)]
    have hLk : ∀ e, e < n - 1 → ∃ c, c < 256 ∧ ag (aw (tb n k) x c2) e = c + 1 ∧ ag (aw L x (c2 / 16)) e = c / 16 + 1 := fun e he => by
      rw [ag_aw, ag_aw]
      by_cases hxe : x = e
      · rw [if_pos hxe, if_pos hxe, Nat.mod_eq_of_lt (by omega), Nat.mod_eq_of_lt (by omega)]
        exact ⟨c2, hc2, rfl, rfl⟩
      · rw [if_neg hxe, if_neg hxe]
        obtain ⟨c, u1, u2, -⟩ := hcds e he
        obtain ⟨c3, v1, v2, -⟩ := hr2 e he
        have : c3 = c := by omega
        subst this
        exact ⟨c3, u2, u1, v2⟩
    have htell : f_TR_tell (aw L x (c2 / 16)) (n - 1) c0 n = some (wC n k2) := by
      refine tell_k hA h1 h2 hk2 (fun e he => ?_) (fun v hv => ?_)
      · obtain ⟨c, u1, u2, u3⟩ := hLk e he
        exact ⟨c / 16, by omega, u3⟩
      · rw [cn_all (Q := aw (tb n k) x c2) (by omega) hLk, ctQ_aw hc2, if_pos hd, ← hT]
        obtain ⟨f3, f4⟩ := flF_ct (d := x) hcds v (n - 1) (Nat.le_refl _)
        rw [htx] at f3 f4
        have e := ctQ_ins c2 v hc2 (n - 1 - 1) _ f3
        rw [show n - 1 - 1 + 1 = n - 1 by omega, f4] at e
        exact e.symm
    -- the reference
    have hin : ∀ bt t, bt < 2 → t ≤ n - 1 + 2 → (∀ v, v ≤ n - 1 + 2 → ((v ≠ c' / 16 ∧ v ≠ c' % 16 ∧ ((c' / 16 < v ∧ v < c' % 16) ↔ bt = 1) ∧ jn (n - 1) (tb n k) v (c' / 16) ∧ jn (n - 1) (tb n k) v (c' % 16)) ↔ v = t)) → f_MO_corner (c' / 16) (c' % 16) bt (2 * (n - 1)) n (nN 3 n k) = some t := fun bt t hbt ht hv => mo_corner (by omega) (by omega) hr (by omega) (by omega) hbt ht hv
    have hco : ∃ u v, f_MO_corner (c' / 16) (c' % 16) 1 (2 * (n - 1)) n (nN 3 n k) = some u ∧ f_MO_corner (c' / 16) (c' % 16) 0 (2 * (n - 1)) n (nN 3 n k) = some v ∧ u < 16 ∧ v < 16 ∧ 16 * min u v + max u v = c2 := by
      rcases hside with ⟨s1, s2, s3⟩ | ⟨s1, s2, s3⟩
      · refine ⟨c2 / 16, c2 % 16, hin 1 _ (by omega) (by omega) (fun v hv => ?_), hin 0 _ (by omega) (by omega) (fun v hv => ?_), by omega, by omega, by omega⟩
        · constructor
          · rintro ⟨w1, w2, w3, w4, w5⟩
            have := w3.2 rfl
            rcases (hm v hv).1 ⟨w4, w5⟩ with w | w
            · exact w
            · omega
          · intro w
            have := (hm v hv).2 (Or.inl w)
            exact ⟨by omega, by omega, by omega, this.1, this.2⟩
        · constructor
          · rintro ⟨w1, w2, w3, w4, w5⟩
            rcases (hm v hv).1 ⟨w4, w5⟩ with w | w
            · have := w3.1 (by omega)
              omega
            · exact w
          · intro w
            have := (hm v hv).2 (Or.inr w)
            exact ⟨by omega, by omega, by omega, this.1, this.2⟩
      · refine ⟨c2 % 16, c2 / 16, hin 1 _ (by omega) (by omega) (fun v hv => ?_), hin 0 _ (by omega) (by omega) (fun v hv => ?_), by omega, by omega, by omega⟩
        · constructor
          · rintro ⟨w1, w2, w3, w4, w5⟩
            have := w3.2 rfl
            rcases (hm v hv).1 ⟨w4, w5⟩ with w | w
            · omega
            · exact w
          · intro w
            have := (hm v hv).2 (Or.inr w)
            exact ⟨by omega, by omega, by omega, this.1, this.2⟩
        · constructor
          · rintro ⟨w1, w2, w3, w4, w5⟩
            rcases (hm v hv).1 ⟨w4, w5⟩ with w | w
            · exact w
            · have := w3.1 (by omega)
              omega
          · intro w
            have := (hm v hv).2 (Or.inl w)
            exact ⟨by omega, by omega, by omega, this.1, this.2⟩
    obtain ⟨u, v, eu, ev, hu, hv, huv⟩ := hco
    obtain ⟨R2, -, -, hrk2, -⟩ := (a_all hA h1 h2 hk2).2.2.2.2.1
    obtain ⟨O, hO, hs⟩ := copy_k h1 h2 hk2 (wB n k)
    rw [show 2 * n - 2 = 2 * (n - 1) by omega] at eW
    refine Or.inl ⟨k2, (k2, aw L x (c2 / 16), aw H x (c2 % 16), n - 1, wB n k2, wC n k2, n), (k2, 0, O), hk2, fun zd pb => ?_, sbO_rfl _, sbO_rfl _, rfl, fun c => ?_, rfl, rfl, hs⟩
    · unfold f_CW_flip f_WD_pairs f_WD_begin
      rw [iLt_f (by omega) (by omega) (by omega)]
      simp only [ob_s]
      rw [iS_n (by omega) (by omega), iLt_t (by omega) (by omega) (by omega), fill_c0]
      simp only [ob_s]
      rw [tr_dz, hdr]
      simp only [ob_s]
      rw [hex]
      simp only [ob_s]
      rw [htell]
      simp only [ob_s]
      rw [cw_adopt hA h1 h2 hk2]
      rfl
    · obtain ⟨W2, gW, gE⟩ := fl_go (x0 := x) (c := c) (n := n) (w := wB n k) (tr := 0) (sh := 0) (wa := 0) (lo := 0) (hi := 0) (op := 0) (cl := 0) (pi := 0) (l5 := u) (l6 := v) (cc := 0) (ww := wB n k) (tt := 0) (by omega) hd hr (n - 1) 1000000 0 0 (by omega) (by omega) (fun t ht => by
        unfold tx at ht
        rw [if_pos (by omega)] at ht
        omega)
      obtain ⟨W3, e3, g3⟩ := mo_wish (m := n - 1 - 1) (x := u) (y := v) (by omega) hu hv gW
      rw [huv, hT] at g3
      have hf := find_wantedO (famR3 hA) h1 h2 hk2 (W := W3) (fun t ht => rq_ag hrk2 (fun t ht => g3 t (by omega)) t (by omega)) (wB n k) (nN 3 n k) hO
      have ht0 : tx x 0 = 0 := by
        unfold tx
        rw [if_pos (by omega)]
      rw [ht0, Nat.mul_zero] at gE
      unfold f_MO_flipF e_MO_flipF
      rw [weq_write_word_shown, eW]
      simp only [ob_s]
      rw [iLt_f (by omega) (by omega) (by omega), jC_lt (by omega) (by omega), bl_t (by omega), fz_eq, fz_eq]
      unfold j_MO_flipF_36
      rw [iLt_f (by omega) (by omega) (by omega), iM_n (by omega), iA_n (by omega), rd_k q4 (by omega), rd_k q5 (by omega), eu]
      simp only [ob_s]
      rw [ev]
      simp only [ob_s]
      rw [gE, e3]
      simp only [ob_s]
      rw [hf]
      rfl
  · refine Or.inr ⟨0, (0, 1, wB n k), ?_, fun c => ?_, rfl, sbO_rfl _⟩
    · unfold f_CW_flipX j_CW_flipX_17 f_WD_pairs
      by_cases hb : x < 2147483648
      · rw [iLt_f hb (by omega) (by omega)]
        simp only [ob_s]
        rw [iS_n (by omega) (by omega), iLt_f hb (by omega) (by omega)]
      · rw [iLt_big (by omega) hx 0 (by omega)]
    · unfold f_MO_flipF e_MO_flipF
      rw [weq_write_word_shown, eW]
      simp only [ob_s]
      unfold j_MO_flipF_31 j_MO_flipF_36
      by_cases hb : x < 2147483648
      · rw [iLt_f hb (by omega) (by omega), jC_lt hb (by omega), bl_f (by omega), fz_eq, fz_eq, iLt_t (by omega) (by omega) (by omega)]
      · rw [iLt_big (by omega) hx 0 (by omega), fz_eq, fz_eq, iLt_t (by omega) (by omega) (by omega)]
