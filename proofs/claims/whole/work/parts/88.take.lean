/-! an order on answers: what is known stays known; what the class reads out of a note -/
theorem bz_t {α : Type} (X Y : α) : (bif true then X else Y) = X := Eq.trans rfl rfl
theorem bz_f {α : Type} (X Y : α) : (bif false then X else Y) = Y := Eq.trans rfl rfl
theorem ob_s {α β : Type} (a : α) (k : α → Option β) : Option.bind (some a) k = k a := Eq.trans rfl rfl
def ole {α : Type} (a b : Option α) : Prop := ∀ r, a = some r → b = some r
theorem ole_rfl {α : Type} (a : Option α) : ole a a := fun _ h => h
theorem ole_nn {α : Type} (b : Option α) : ole none b := fun _ h => no_s h
theorem ole_bif {α : Type} {c : Bool} {X Y X' Y' : Option α} (h1 : ole X X') (h2 : ole Y Y') : ole (bif c then X else Y) (bif c then X' else Y') := by
  cases c
  · exact h2
  · exact h1
theorem ole_bnd {α β : Type} {a a' : Option α} {k k' : α → Option β} (h : ole a a') (h2 : ∀ v, ole (k v) (k' v)) : ole (Option.bind a k) (Option.bind a' k') := by
  intro r hr
  cases a with
  | none => exact no_s hr
  | some v =>
    rw [h v rfl]
    exact h2 v r hr
theorem ole_fz {α : Type} {x : Nat} {k k' : Nat → Option α} (h : ∀ v, ole (k v) (k' v)) : ole (fz x k) (fz x k') := by
  rw [fz_eq, fz_eq]
  exact h x
theorem ole_rd {α : Type} {O O' n i : Nat} {k k' : Nat → Option α} (h : sbO O O') (h2 : ∀ v, ole (k v) (k' v)) : ole (rd O n i k) (rd O' n i k') := by
  intro r hr
  unfold rd at hr ⊢
  cases hb : Nat.blt i n with
  | false =>
    rw [hb] at hr
    exact no_s hr
  | true =>
    rw [hb] at hr
    cases ho : ag O i with
    | zero =>
      rw [ho] at hr
      exact no_s hr
    | succ v =>
      rw [ho] at hr
      rw [h i (by rw [ho]; exact Nat.succ_ne_zero v), ho]
      exact h2 v r hr
theorem sbO_rfl (O : Nat) : sbO O O := fun _ _ => rfl
theorem xor_lt {a b m : Nat} (h1 : a < 2 ^ m) (h2 : b < 2 ^ m) : a ^^^ b < 2 ^ m := Nat.xor_lt_two_pow h1 h2
theorem aw_lt {O i v m : Nat} (h : O < 2 ^ (33 * m)) (hi : i < m) : aw O i v < 2 ^ (33 * m) := by
  unfold aw au
  rw [fz_eq, fz_eq, fz_eq, fz_eq]
  refine xor_lt h ?_
  show (((O >>> (33 * i)) % 8589934592) ^^^ ((v % 4294967296).succ % 8589934592)) <<< (33 * i) < 2 ^ (33 * m)
  have hx : ((O >>> (33 * i)) % 8589934592) ^^^ ((v % 4294967296).succ % 8589934592) < 2 ^ 33 := xor_lt (Nat.mod_lt _ (by decide)) (Nat.mod_lt _ (by decide))
  rw [Nat.shiftLeft_eq]
  calc _ < 2 ^ 33 * 2 ^ (33 * i) := Nat.mul_lt_mul_of_pos_right hx (Nat.two_pow_pos _)
    _ = 2 ^ (33 * (i + 1)) := by rw [← Nat.pow_add]; congr 1; omega
    _ ≤ 2 ^ (33 * m) := Nat.pow_le_pow_right (by omega) (by omega)
/-- closings as they may stand: at most t behind each 1, none outside -/
def gd (n t C : Nat) : Prop := C < 2 ^ (33 * 10) ∧ ∀ j, j < 10 → ∃ v, v ≤ t ∧ ag C j = v + 1 ∧ ((j = 0 ∨ n < j) → v = 0)
theorem gd_c0 (n : Nat) : gd n 0 c0 := by
  refine ⟨by decide +kernel, fun j hj => ⟨0, Nat.le_refl _, ?_, fun _ => rfl⟩⟩
  rcases (by omega : j = 0 ∨ j = 1 ∨ j = 2 ∨ j = 3 ∨ j = 4 ∨ j = 5 ∨ j = 6 ∨ j = 7 ∨ j = 8 ∨ j = 9) with rfl | rfl | rfl | rfl | rfl | rfl | rfl | rfl | rfl | rfl <;> decide +kernel
theorem gd_mono {n t t2 C : Nat} (h : gd n t C) (ht : t ≤ t2) : gd n t2 C := ⟨h.1, fun j hj => by
  obtain ⟨v, a, b, c⟩ := h.2 j hj
  exact ⟨v, by omega, b, c⟩⟩
theorem gd_close {n t C x : Nat} (h2 : n ≤ 9) (h : gd n t C) (ht : t < 1000000) (hx : x < 4294967296) : ∃ C2, f_WD_closeAfter x C n = some C2 ∧ gd n (t + 1) C2 := by
  unfold f_WD_closeAfter
  by_cases hb : x < 2147483648
  · by_cases h0 : x < 1
    · rw [iLt_t hb (by omega) h0]
      exact ⟨C, rfl, gd_mono h (by omega)⟩
    · rw [iLt_f hb (by omega) (by omega)]
      by_cases hn : n < x
      · rw [iLt_t (by omega) hb hn]
        exact ⟨C, rfl, gd_mono h (by omega)⟩
      · rw [iLt_f (by omega) hb (by omega)]
        obtain ⟨v, a, b, c⟩ := h.2 x (by omega)
        rw [rd_k b (by omega), bl_t (by omega), iA_n (by omega)]
        refine ⟨_, rfl, aw_lt h.1 (by omega), fun j hj => ?_⟩
        rw [ag_aw]
        by_cases hj2 : x = j
        · rw [if_pos hj2, Nat.mod_eq_of_lt (by omega)]
          exact ⟨v + 1, by omega, rfl, fun q => by omega⟩
        · rw [if_neg hj2]
          obtain ⟨v, a, b, c⟩ := h.2 j hj
          exact ⟨v, by omega, b, c⟩
  · rw [iLt_big (by omega) hx 1 (by omega)]
    exact ⟨C, rfl, gd_mono h (by omega)⟩
theorem kno_rd {α : Type} {A m i : Nat} (h : kno A m) (hi : i < m) : ∃ v, v < 4294967296 ∧ ag A i = v + 1 ∧ ∀ (M : Nat) (k : Nat → Option α), i < M → rd A M i k = k v := by
  obtain ⟨v, a, b⟩ := h i hi
  exact ⟨v, a, b, fun M k hM => rd_k b hM⟩
/-! the reads never fail -/
theorem tot_BR {n N c : Nat} (h2 : n ≤ 9) (hN : kno N 20) : ∀ d fuel l3 l4 C, l4 + d = 2 * n → d < fuel → l3 ≤ l4 → gd n l4 C → ∃ C2, fr_BR_read N c n fuel l3 l4 C = some C2 ∧ gd n 100 C2 := by
  intro d
  induction d with
  | zero =>
    intro fuel l3 l4 C hl hf h3 hC
    obtain ⟨m, rfl⟩ : ∃ m, fuel = m + 1 := ⟨fuel - 1, by omega⟩
    refine ⟨C, ?_, gd_mono hC (by omega)⟩
    rw [frs_BR_read_5]
    unfold b_BR_read_5 f_WD_length
    simp only [ob_s]
    rw [iM2 h2, iLt_f (by omega) (by omega) (by omega)]
  | succ d ih =>
    intro fuel l3 l4 C hl hf h3 hC
    obtain ⟨m, rfl⟩ : ∃ m, fuel = m + 1 := ⟨fuel - 1, by omega⟩
    obtain ⟨v, hv, hr⟩ := hN l4 (by omega)
    rw [frs_BR_read_5]
    unfold b_BR_read_5 j_BR_read_33 f_WD_length
    simp only [ob_s]
    rw [iM2 h2, iLt_t (by omega) (by omega) (by omega), rd_k hr (by omega)]
    by_cases h : v = 1
    · subst h
      rw [iEq_t, fz_eq, fz_eq, iA_n (by omega), iA_n (by omega)]
      exact ih m (l3 + 1) (l4 + 1) C (by omega) (by omega) (by omega) (gd_mono hC (by omega))
    · rw [iEq_f hv (by omega) h]
      obtain ⟨C2, e, g⟩ := gd_close (x := l3) h2 hC (by omega) (by omega)
      rw [e]
      simp only [ob_s]
      rw [fz_eq, iA_n (by omega)]
      exact ih m l3 (l4 + 1) C2 (by omega) (by omega) (by omega) g
theorem fill9_n {n : Nat} (h1 : 1 ≤ n) (h2 : n ≤ 9) : ∃ E, f_AR_fill9 n 0 = some E ∧ ∀ j, j < 9 → ag E j = n + 1 := by
  have key : ∀ m, oB (f_AR_fill9 m 0) (fun E => alB (fun j => Nat.beq (ag E j) (Nat.succ m)) 0 9) = true → ∃ E, f_AR_fill9 m 0 = some E ∧ ∀ j, j < 9 → ag E j = m + 1 := fun m h => by
    obtain ⟨E, e, h⟩ := oB_t h
    refine ⟨E, e, fun j hj => ?_⟩
    exact Nat.eq_of_beq_eq_true ((upTo.z _).ext (a := 0) (m := 9) h j (by omega))
  refine key n ?_
  rcases (by omega : n = 1 ∨ n = 2 ∨ n = 3 ∨ n = 4 ∨ n = 5 ∨ n = 6 ∨ n = 7 ∨ n = 8 ∨ n = 9) with rfl | rfl | rfl | rfl | rfl | rfl | rfl | rfl | rfl <;> decide +kernel
/-- entries below m known and at most b -/
def smE (m b E : Nat) : Prop := ∀ j, j < m → ∃ v, v ≤ b ∧ ag E j = v + 1
theorem smE_aw {m b E i v : Nat} (h : smE m b E) (hv : v ≤ b) (hb : b < 4294967296) : smE m b (aw E i v) := fun j hj => by
  rw [ag_aw]
  by_cases h2 : i = j
  · rw [if_pos h2, Nat.mod_eq_of_lt (by omega)]
    exact ⟨v, hv, rfl⟩
  · rw [if_neg h2]
    exact h j hj
theorem iLt_c {x b : Nat} (hx : x < 4294967296) (hb : b < 2147483648) : iLt x b = true ∧ (2147483648 ≤ x ∨ x < b) ∨ iLt x b = false ∧ b ≤ x ∧ x < 2147483648 := by
  by_cases h : x < 2147483648
  · rw [iLt_n h hb]
    by_cases h2 : x < b
    · exact Or.inl ⟨Nat.blt_eq.mpr h2, Or.inr h2⟩
    · refine Or.inr ⟨?_, by omega, h⟩
      cases hc : Nat.blt x b with
      | false => rfl
      | true => exact absurd (Nat.blt_eq.mp hc) h2
  · refine Or.inl ⟨?_, Or.inl (by omega)⟩
    rw [iLt_eq]
    exact Nat.blt_eq.mpr (by omega)
theorem iLt_d {x b : Nat} (hx : x < 4294967296) (hb : b < 2147483648) : iLt b x = true ∧ b < x ∧ x < 2147483648 ∨ iLt b x = false ∧ (2147483648 ≤ x ∨ x ≤ b) := by
  by_cases h : x < 2147483648
  · rw [iLt_n hb h]
    by_cases h2 : b < x
    · exact Or.inl ⟨Nat.blt_eq.mpr h2, h2, h⟩
    · refine Or.inr ⟨?_, by omega⟩
      cases hc : Nat.blt b x with
      | false => rfl
      | true => exact absurd (Nat.blt_eq.mp hc) h2
  · refine Or.inr ⟨?_, Or.inl (by omega)⟩
    rw [iLt_eq]
    cases hc : Nat.blt ((b + 2147483648) % 4294967296) ((x + 2147483648) % 4294967296) with
    | false => rfl
    | true =>
      have := Nat.blt_eq.mp hc
      omega
theorem tot_BT {n N c e0 : Nat} (h1 : 1 ≤ n) (h2 : n ≤ 9) (hN : kno N 20) : ∀ d fuel l4 E C, l4 + d = n → d < fuel → smE 9 n E → gd n l4 C → ∃ E2 C2, fr_BT_read e0 N c n fuel n l4 E C = some (E2, C2) ∧ gd n 100 C2 := by
  intro d
  induction d with
  | zero =>
    intro fuel l4 E C hl hf hE hC
    obtain ⟨m, rfl⟩ : ∃ m, fuel = m + 1 := ⟨fuel - 1, by omega⟩
    refine ⟨E, C, ?_, gd_mono hC (by omega)⟩
    rw [frs_BT_read_16]
    unfold b_BT_read_16
    rw [iLt_f (by omega) (by omega) (by omega)]
  | succ d ih =>
    intro fuel l4 E C hl hf hE hC
    obtain ⟨m, rfl⟩ : ∃ m, fuel = m + 1 := ⟨fuel - 1, by omega⟩
    have j92 : ∀ l6 E, l6 ≤ n → smE 9 n E → ∃ E2 C2, j_BT_read_92 (fr_BT_read e0 N c n m) e0 N c n n l4 l6 E C = some (E2, C2) ∧ gd n 100 C2 := fun l6 E h6 hE => by
      unfold j_BT_read_92
      obtain ⟨C2, e, g⟩ := gd_close (x := l6) h2 hC (by omega) (by omega)
      rw [e]
      simp only [ob_s]
      rw [fz_eq, iA_n (by omega)]
      exact ih m (l4 + 1) E C2 (by omega) (by omega) hE g
    have j72 : ∀ l6 E, l6 ≤ n → smE 9 n E → ∃ E2 C2, j_BT_read_72 (fr_BT_read e0 N c n m) e0 N c n n l4 l6 E C = some (E2, C2) ∧ gd n 100 C2 := fun l6 E h6 hE => by
      unfold j_BT_read_72
      rw [iA_n (by omega)]
      by_cases h : l4 + 1 < l6
      · rw [iLt_t (by omega) (by omega) h, bl_t (by omega), fz_eq]
        exact j92 l6 _ h6 (smE_aw hE h6 (by omega))
      · rw [iLt_f (by omega) (by omega) (by omega)]
        exact j92 l6 _ h6 hE
    obtain ⟨v, hv, hr⟩ := hN (2 * l4 + 1) (by omega)
    obtain ⟨e, he, hr2⟩ := hE l4 (by omega)
    rw [frs_BT_read_16]
    unfold b_BT_read_16
    rw [iLt_t (by omega) (by omega) (by omega), iM_n (by omega), iA_n (by omega), rd_k hr (by omega), rd_k hr2 (by omega)]
    rcases iLt_d hv (b := l4) (by omega) with ⟨q, q2, q3⟩ | ⟨q, -⟩
    · rw [q]
      simp only [bz_t]
      by_cases h : v < n
      · rw [iLt_t q3 (by omega) h, rd_k hr2 (by omega), bl_t (by omega), fz_eq]
        exact j72 v _ (by omega) (smE_aw hE he (by omega))
      · rw [iLt_f q3 (by omega) (by omega)]
        exact j72 e _ he hE
    · rw [q]
      simp only [bz_f]
      exact j72 e _ he hE
theorem iMx_le {a b m : Nat} (ha : a ≤ m) (hb : b ≤ m) (hm : m < 2147483648) : iMx a b ≤ m := by
  unfold iMx
  by_cases h : a < b
  · rw [iLt_t (by omega) (by omega) h]
    exact hb
  · rw [iLt_f (by omega) (by omega) (by omega)]
    exact ha
theorem iA_m1 {a : Nat} (h : 1 ≤ a) (h2 : a < 4294967296) : iA a 4294967295 = a - 1 := by
  rw [iA_eq, show a + 4294967295 = (a - 1) + 4294967296 by omega, Nat.add_mod_right, Nat.mod_eq_of_lt (by omega)]
theorem tot_PT2 {n N c e0 : Nat} (h1 : 1 ≤ n) (h2 : n ≤ 9) (hN : kno N 20) : ∀ l4 fuel E C, l4 ≤ n → l4 < fuel → smE (n + 1) n E → gd n (n - l4) C → ∃ E2 C2, fr_PT_read e0 N c n fuel 1 l4 E C 0 = some (E2, C2) ∧ gd n 100 C2 := by
  intro l4
  induction l4 with
  | zero =>
    intro fuel E C hl hf hE hC
    obtain ⟨m, rfl⟩ : ∃ m, fuel = m + 1 := ⟨fuel - 1, by omega⟩
    refine ⟨E, C, ?_, gd_mono hC (by omega)⟩
    rw [frs_PT_read_32]
    unfold b_PT_read_32
    rw [iLt_t (by omega) (by omega) (by omega)]
  | succ l4 ih =>
    intro fuel E C hl hf hE hC
    obtain ⟨m, rfl⟩ : ∃ m, fuel = m + 1 := ⟨fuel - 1, by omega⟩
    have j80 : ∀ E, smE (n + 1) n E → ∃ E2 C2, j_PT_read_80 (fr_PT_read e0 N c n m) e0 N c n (l4 + 1) E C = some (E2, C2) ∧ gd n 100 C2 := fun E hE => by
      unfold j_PT_read_80
      obtain ⟨e, he, hr⟩ := hE (l4 + 1) (by omega)
      obtain ⟨C2, e2, g⟩ := gd_close (x := e) h2 hC (by omega) (by omega)
      rw [rd_k hr (by omega), e2]
      simp only [ob_s]
      rw [fz_eq, iA_m1 (by omega) (by omega), Nat.add_sub_cancel]
      exact ih m E C2 (by omega) (by omega) hE (gd_mono g (by omega))
    obtain ⟨v, hv, hr⟩ := hN (l4 + 1) (by omega)
    rw [frs_PT_read_32]
    unfold b_PT_read_32
    rw [iLt_f (by omega) (by omega) (by omega), rd_k hr (by omega)]
    rcases iLt_c hv (b := 0) (by omega) with ⟨q, -⟩ | ⟨q, -, q3⟩
    · rw [q]
      simp only [bz_t]
      exact j80 E hE
    · rw [q]
      simp only [bz_f]
      by_cases h : v < l4 + 1
      · obtain ⟨e, he, hr2⟩ := hE v (by omega)
        obtain ⟨f, hf2, hr3⟩ := hE (l4 + 1) (by omega)
        rw [iLt_t q3 (by omega) h, rd_k hr2 (by omega), rd_k hr3 (by omega), bl_t (by omega), fz_eq]
        exact j80 _ (smE_aw hE (iMx_le he hf2 (by omega)) (by omega))
      · rw [iLt_f q3 (by omega) (by omega)]
        exact j80 E hE
theorem tot_PT1 {n N c e0 : Nat} (h1 : 1 ≤ n) (h2 : n ≤ 9) (hN : kno N 20) {C : Nat} (hC : gd n 0 C) : ∀ d fuel l4 E, l4 + d = n + 1 → d + n + 1 < fuel → smE l4 n E → ∃ E2 C2, fr_PT_read e0 N c n fuel 0 n l4 E C = some (E2, C2) ∧ gd n 100 C2 := by
  intro d
  induction d with
  | zero =>
    intro fuel l4 E hl hf hE
    obtain ⟨m, rfl⟩ : ∃ m, fuel = m + 1 := ⟨fuel - 1, by omega⟩
    rw [frs_PT_read_8]
    unfold b_PT_read_8
    rw [iLt_t (by omega) (by omega) (by omega)]
    exact tot_PT2 h1 h2 hN n m E C (by omega) (by omega) (fun j hj => hE j (by omega)) (gd_mono hC (by omega))
  | succ d ih =>
    intro fuel l4 E hl hf hE
    obtain ⟨m, rfl⟩ : ∃ m, fuel = m + 1 := ⟨fuel - 1, by omega⟩
    rw [frs_PT_read_8]
    unfold b_PT_read_8
    rw [iLt_f (by omega) (by omega) (by omega), bl_t (by omega), fz_eq, fz_eq, iA_n (by omega)]
    refine ih m (l4 + 1) _ (by omega) (by omega) (fun j hj => ?_)
    rw [ag_aw]
    by_cases h : l4 = j
    · rw [if_pos h, Nat.mod_eq_of_lt (by omega)]
      exact ⟨l4, by omega, rfl⟩
    · rw [if_neg h]
      exact hE j (by omega)
/-- how many of the d numbers from a on are less than x -/
noncomputable def cn (L x : Nat) : Nat → Nat → Nat := fun a d => Nat.rec (motive := fun _ => Nat → Nat) (fun _ => 0) (fun _ ih a => (bif iLt (ag L a - 1) x then 1 else 0) + ih (a + 1)) d a
theorem cn_s (L x a d : Nat) : cn L x a (d + 1) = (bif iLt (ag L a - 1) x then 1 else 0) + cn L x (a + 1) d := rfl
theorem cn_le (L x : Nat) : ∀ d a, cn L x a d ≤ d := by
  intro d
  induction d with
  | zero => intro a; exact Nat.le_refl _
  | succ d ih =>
    intro a
    rw [cn_s]
    have := ih (a + 1)
    cases iLt (ag L a - 1) x
    · simp only [bz_f]; omega
    · simp only [bz_t]; omega
theorem tell_in {L D c n l2 : Nat} (hD : D ≤ 9) (hL : kno L D) (h2 : l2 ≤ 20) : ∀ d fuel l3 l4 C, l4 + d = D → l3 ≤ l4 + 1 → d < fuel → fr_TR_tell L D c n fuel 1 l2 l3 l4 C = Option.bind (f_WD_closeAfter (l3 + cn L l2 l4 d) C n) (fun q => fr_TR_tell L D c n (fuel - d - 1) 0 (l2 + 1) q 0 0) := by
  intro d
  induction d with
  | zero =>
    intro fuel l3 l4 C hl h3 hf
    obtain ⟨m, rfl⟩ : ∃ m, fuel = m + 1 := ⟨fuel - 1, by omega⟩
    rw [frs_TR_tell_15]
    unfold b_TR_tell_15
    rw [iLt_f (by omega) (by omega) (by omega)]
    simp only [fz_eq]
    rw [iA_n (by omega)]
    rfl
  | succ d ih =>
    intro fuel l3 l4 C hl h3 hf
    obtain ⟨m, rfl⟩ : ∃ m, fuel = m + 1 := ⟨fuel - 1, by omega⟩
    obtain ⟨v, hv, hr⟩ := hL l4 (by omega)
    rw [frs_TR_tell_15]
    unfold b_TR_tell_15 j_TR_tell_38
    rw [iLt_t (by omega) (by omega) (by omega), rd_k hr (by omega), cn_s, hr, Nat.add_sub_cancel, show m + 1 - (d + 1) - 1 = m - d - 1 by omega]
    cases iLt v l2
    · simp only [bz_f, fz_eq]
      rw [iA_n (by omega), ih m l3 (l4 + 1) C (by omega) (by omega) (by omega), Nat.zero_add]
    · simp only [bz_t, fz_eq]
      rw [iA_n (by omega), iA_n (by omega), ih m (l3 + 1) (l4 + 1) C (by omega) (by omega) (by omega), Nat.add_assoc]
theorem tot_tell {L D c n : Nat} (h2 : n ≤ 9) (hD : D ≤ 9) (hL : kno L D) : ∀ e fuel l2 C, l2 + e = n + 1 → 1 ≤ l2 → e * 20 < fuel → gd n (l2 - 1) C → ∃ C2, fr_TR_tell L D c n fuel 0 l2 C 0 0 = some C2 ∧ gd n 100 C2 := by
  intro e
  induction e with
  | zero =>
    intro fuel l2 C hl h1 hf hC
    obtain ⟨m, rfl⟩ : ∃ m, fuel = m + 1 := ⟨fuel - 1, by omega⟩
    refine ⟨C, ?_, gd_mono hC (by omega)⟩
    rw [frs_TR_tell_2]
    unfold b_TR_tell_2 f_WD_pairs
    simp only [ob_s]
    rw [iLt_t (by omega) (by omega) (by omega)]
  | succ e ih =>
    intro fuel l2 C hl h1 hf hC
    obtain ⟨m, rfl⟩ : ∃ m, fuel = m + 1 := ⟨fuel - 1, by omega⟩
    have hcn := cn_le L l2 D 0
    obtain ⟨C2, e2, g⟩ := gd_close (x := 1 + cn L l2 0 D) h2 hC (by omega) (by omega)
    rw [frs_TR_tell_2]
    unfold b_TR_tell_2 f_WD_pairs
    simp only [ob_s]
    rw [iLt_f (by omega) (by omega) (by omega), tell_in hD hL (by omega) D m 1 0 C (by omega) (by omega) (by omega), e2]
    simp only [ob_s]
    exact ih (m - D - 1) (l2 + 1) C2 (by omega) (by omega) (by omega) (gd_mono g (by omega))
theorem tot_TR {n N c a0 a1 a2 C : Nat} (h1 : 1 ≤ n) (h2 : n ≤ 9) (hN : kno N 20) (hC : gd n 0 C) : ∀ d fuel l3 L H, l3 + d = n - 1 → d < fuel → kno L l3 → ∃ q, fr_TR_read a0 a1 a2 N c n fuel l3 L H (n - 1) C = some q ∧ gd n 100 q.2.2.2 := by
  intro d
  induction d with
  | zero =>
    intro fuel l3 L H hl hf hL
    obtain ⟨m, rfl⟩ : ∃ m, fuel = m + 1 := ⟨fuel - 1, by omega⟩
    obtain ⟨C2, e, g⟩ := tot_tell (L := L) (D := n - 1) (c := C) h2 (by omega) (fun j hj => hL j (by omega)) n 1000000 1 C (by omega) (by omega) (by omega) hC
    rw [frs_TR_read_12]
    unfold b_TR_read_12 f_TR_tell e_TR_tell
    rw [iLt_f (by omega) (by omega) (by omega), e]
    exact ⟨_, rfl, g⟩
  | succ d ih =>
    intro fuel l3 L H hl hf hL
    obtain ⟨m, rfl⟩ : ∃ m, fuel = m + 1 := ⟨fuel - 1, by omega⟩
    obtain ⟨v, hv, hr⟩ := hN (2 * l3) (by omega)
    obtain ⟨u, hu, hs⟩ := hN (2 * l3 + 1) (by omega)
    rw [frs_TR_read_12]
    unfold b_TR_read_12
    rw [iLt_t (by omega) (by omega) (by omega), iM_n (by omega), iA_n (by omega), rd_k hr (by omega), bl_t (by omega), rd_k hs (by omega), bl_t (by omega), fz_eq, fz_eq, fz_eq, iA_n (by omega)]
    refine ih m (l3 + 1) _ _ (by omega) (by omega) (fun j hj => ?_)
    rw [ag_aw]
    by_cases h : l3 = j
    · rw [if_pos h]
      exact ⟨v % 4294967296, Nat.mod_lt _ (by omega), rfl⟩
    · rw [if_neg h]
      exact hL j (by omega)
theorem tot_PA2 {n N c e0 G : Nat} (h1 : 1 ≤ n) (h2 : n ≤ 9) (hN : kno N 20) (hG : ∀ j, ag G j = 0 ∨ ∃ v, v ≤ n ∧ ag G j = v + 1) (hK : ∀ m, 1 ≤ m → m ≤ n → ∀ v, ag N (m - 1) = v + 1 → 1 ≤ v → v ≤ n → ag G v ≠ 0) : ∀ d fuel l4 C, l4 + d = n + 1 → 1 ≤ l4 → d < fuel → gd n (l4 - 1) C → ∃ C2, fr_PA_read e0 N c n fuel 1 n l4 G C = some (G, C2) ∧ gd n 100 C2 := by
  intro d
  induction d with
  | zero =>
    intro fuel l4 C hl h1 hf hC
    obtain ⟨m, rfl⟩ : ∃ m, fuel = m + 1 := ⟨fuel - 1, by omega⟩
    refine ⟨C, ?_, gd_mono hC (by omega)⟩
    rw [frs_PA_read_52]
    unfold b_PA_read_52
    rw [iLt_t (by omega) (by omega) (by omega)]
  | succ d ih =>
    intro fuel l4 C hl h1 hf hC
    obtain ⟨m, rfl⟩ : ∃ m, fuel = m + 1 := ⟨fuel - 1, by omega⟩
    obtain ⟨v, hv, hr⟩ := hN (l4 - 1) (by omega)
    have j89 : ∀ C2, gd n l4 C2 → ∃ C3, j_PA_read_89 (fr_PA_read e0 N c n m) e0 N c n n l4 G C2 = some (G, C3) ∧ gd n 100 C3 := fun C2 g => by
      unfold j_PA_read_89
      rw [fz_eq, iA_n (by omega)]
      exact ih m (l4 + 1) C2 (by omega) (by omega) (by omega) (gd_mono g (by omega))
    rw [frs_PA_read_52]
    unfold b_PA_read_52
    rw [iLt_f (by omega) (by omega) (by omega), iS_n (by omega) (by omega), rd_k hr (by omega)]
    rcases iLt_c hv (b := 1) (by omega) with ⟨q, -⟩ | ⟨q, q2, q3⟩
    · rw [q]
      simp only [bz_t]
      exact j89 C (gd_mono hC (by omega))
    · rw [q]
      simp only [bz_f]
      by_cases h : n < v
      · rw [iLt_t (by omega) q3 h]
        exact j89 C (gd_mono hC (by omega))
      · rw [iLt_f (by omega) q3 (by omega)]
        rcases hG v with h0 | ⟨e, he, hr2⟩
        · exact absurd h0 (hK l4 (by omega) (by omega) v hr q2 (by omega))
        · obtain ⟨C2, e2, g⟩ := gd_close (x := e) h2 hC (by omega) (by omega)
          rw [rd_k hr2 (by omega), e2]
          simp only [ob_s]
          exact j89 C2 (gd_mono g (by omega))
theorem tot_PA1 {n N c e0 C : Nat} (h1 : 1 ≤ n) (h2 : n ≤ 9) (hN : kno N 20) (hC : gd n 0 C) : ∀ d fuel l4 G, l4 + d = n + 1 → 1 ≤ l4 → d + n + 1 < fuel → (∀ j, ag G j = 0 ∨ ∃ v, v ≤ n ∧ ag G j = v + 1) → (∀ m, 1 ≤ m → m < l4 → ∀ v, ag N (m - 1) = v + 1 → 1 ≤ v → v ≤ n → ag G v ≠ 0) → ∃ G2 C2, fr_PA_read e0 N c n fuel 0 n l4 G C = some (G2, C2) ∧ gd n 100 C2 := by
  intro d
  induction d with
  | zero =>
    intro fuel l4 G hl h3 hf hG hK
    obtain ⟨m, rfl⟩ : ∃ m, fuel = m + 1 := ⟨fuel - 1, by omega⟩
    rw [frs_PA_read_8]
    unfold b_PA_read_8
    rw [iLt_t (by omega) (by omega) (by omega)]
    obtain ⟨C2, e, g⟩ := tot_PA2 (c := c) (e0 := e0) h1 h2 hN hG (fun m q1 q2 => hK m q1 (by omega)) n m 1 C (by omega) (by omega) (by omega) hC
    exact ⟨G, C2, e, g⟩
  | succ d ih =>
    intro fuel l4 G hl h3 hf hG hK
    obtain ⟨m, rfl⟩ : ∃ m, fuel = m + 1 := ⟨fuel - 1, by omega⟩
    obtain ⟨v, hv, hr⟩ := hN (l4 - 1) (by omega)
    rw [frs_PA_read_8]
    unfold b_PA_read_8 j_PA_read_43
    rw [iLt_f (by omega) (by omega) (by omega), iS_n (by omega) (by omega), rd_k hr (by omega)]
    have skip : ¬ (1 ≤ v ∧ v ≤ n) → ∃ G2 C2, fr_PA_read e0 N c n m 0 n (l4 + 1) G C = some (G2, C2) ∧ gd n 100 C2 := fun h => ih m (l4 + 1) G (by omega) (by omega) (by omega) hG (fun m2 q1 q2 u hu q3 q4 => by
      by_cases hm : m2 < l4
      · exact hK m2 q1 hm u hu q3 q4
      · have : m2 = l4 := by omega
        subst this
        rw [hr] at hu
        omega)
    rcases iLt_c hv (b := 1) (by omega) with ⟨q, q2⟩ | ⟨q, q2, q3⟩
    · rw [q]
      simp only [bz_t, fz_eq]
      rw [iA_n (by omega)]
      exact skip (by omega)
    · rw [q]
      simp only [bz_f]
      by_cases h : n < v
      · rw [iLt_t (by omega) q3 h, fz_eq, iA_n (by omega)]
        exact skip (by omega)
      · rw [iLt_f (by omega) q3 (by omega), bl_t (by omega), fz_eq, fz_eq, iA_n (by omega)]
        refine ih m (l4 + 1) _ (by omega) (by omega) (by omega) (fun j => ?_) (fun m2 q1 q2 u hu q4 q5 => ?_)
        · rw [ag_aw]
          by_cases hj : v = j
          · rw [if_pos hj, Nat.mod_eq_of_lt (by omega)]
            exact Or.inr ⟨l4, by omega, rfl⟩
          · rw [if_neg hj]
            exact hG j
        · rw [ag_aw]
          by_cases hj : v = u
          · rw [if_pos hj]
            exact Nat.succ_ne_zero _
          · rw [if_neg hj]
            by_cases hm : m2 < l4
            · exact hK m2 q1 hm u hu q4 q5
            · have : m2 = l4 := by omega
              subst this
              rw [hr] at hu
              omega
theorem tot_PE2 {n N c e0 E : Nat} (h1 : 1 ≤ n) (h2 : n ≤ 9) (hE : smE 10 n E) : ∀ d fuel l4 l5 C, l5 + d = n + 1 → 1 ≤ l5 → d < fuel → l4 ≤ n → gd n (l5 - 1) C → ∃ C2, fr_PE_read e0 N c n fuel 1 n l4 l5 E C = some (E, C2) ∧ gd n 100 C2 := by
  intro d
  induction d with
  | zero =>
    intro fuel l4 l5 C hl h1 hf h4 hC
    obtain ⟨m, rfl⟩ : ∃ m, fuel = m + 1 := ⟨fuel - 1, by omega⟩
    refine ⟨C, ?_, gd_mono hC (by omega)⟩
    rw [frs_PE_read_63]
    unfold b_PE_read_63
    rw [iLt_t (by omega) (by omega) (by omega)]
  | succ d ih =>
    intro fuel l4 l5 C hl h1 hf h4 hC
    obtain ⟨m, rfl⟩ : ∃ m, fuel = m + 1 := ⟨fuel - 1, by omega⟩
    obtain ⟨v, hv, hr⟩ := hE l5 (by omega)
    have hx := iMx_le h4 hv (by omega)
    obtain ⟨C2, e2, g⟩ := gd_close (x := iMx l4 v) h2 hC (by omega) (by omega)
    rw [frs_PE_read_63]
    unfold b_PE_read_63
    rw [iLt_f (by omega) (by omega) (by omega), rd_k hr (by omega), e2]
    simp only [ob_s]
    rw [fz_eq, fz_eq, iA_n (by omega)]
    exact ih m _ (l5 + 1) C2 (by omega) (by omega) (by omega) hx (gd_mono g (by omega))
theorem tot_PE1 {n N c e0 C : Nat} (h1 : 1 ≤ n) (h2 : n ≤ 9) (hN : kno N 20) (hC : gd n 0 C) : ∀ d fuel l4 E, l4 + d = n + 1 → 1 ≤ l4 → d + n + 1 < fuel → smE 10 n E → ∃ E2 C2, fr_PE_read e0 N c n fuel 0 n l4 E C 0 = some (E2, C2) ∧ gd n 100 C2 := by
  intro d
  induction d with
  | zero =>
    intro fuel l4 E hl h3 hf hE
    obtain ⟨m, rfl⟩ : ∃ m, fuel = m + 1 := ⟨fuel - 1, by omega⟩
    rw [frs_PE_read_16]
    unfold b_PE_read_16
    rw [iLt_t (by omega) (by omega) (by omega)]
    obtain ⟨C2, e, g⟩ := tot_PE2 (N := N) (c := c) (e0 := e0) h1 h2 hE n m 0 1 C (by omega) (by omega) (by omega) (by omega) hC
    exact ⟨E, C2, e, g⟩
  | succ d ih =>
    intro fuel l4 E hl h3 hf hE
    obtain ⟨m, rfl⟩ : ∃ m, fuel = m + 1 := ⟨fuel - 1, by omega⟩
    obtain ⟨v, hv, hr⟩ := hN (l4 - 1) (by omega)
    rw [frs_PE_read_16]
    unfold b_PE_read_16 j_PE_read_51
    rw [iLt_f (by omega) (by omega) (by omega), iS_n (by omega) (by omega), rd_k hr (by omega)]
    rcases iLt_c hv (b := 1) (by omega) with ⟨q, q2⟩ | ⟨q, q2, q3⟩
    · rw [q]
      simp only [bz_t, fz_eq]
      rw [iA_n (by omega)]
      exact ih m (l4 + 1) E (by omega) (by omega) (by omega) hE
    · rw [q]
      simp only [bz_f]
      by_cases h : n < v
      · rw [iLt_t (by omega) q3 h, fz_eq, iA_n (by omega)]
        exact ih m (l4 + 1) E (by omega) (by omega) (by omega) hE
      · rw [iLt_f (by omega) q3 (by omega), bl_t (by omega), fz_eq, fz_eq, iA_n (by omega)]
        exact ih m (l4 + 1) _ (by omega) (by omega) (by omega) (smE_aw hE (by omega) (by omega))
/-! finish -/
noncomputable def sm (C : Nat) : Nat → Nat := fun i => Nat.rec 0 (fun i s => s + (ag C (i + 1) - 1)) i
theorem sm_s (C i : Nat) : sm C (i + 1) = sm C i + (ag C (i + 1) - 1) := rfl
theorem fin_in {C n b v l2 l3 : Nat} (hv : ag C l3 = v + 1) (h3 : l3 < 10) (hv2 : v < 200) : ∀ d fuel l1 l4 B, l4 + d = v → l1 + d ≤ 18 → d < fuel → ∃ B2, fr_WD_finish b C n fuel 1 l1 l2 l3 l4 B = fr_WD_finish b C n (fuel - d - 1) 0 (l1 + d) l2 (l3 + 1) B2 0 := by
  intro d
  induction d with
  | zero =>
    intro fuel l1 l4 B hl hb hf
    obtain ⟨m, rfl⟩ : ∃ m, fuel = m + 1 := ⟨fuel - 1, by omega⟩
    refine ⟨B, ?_⟩
    rw [frs_WD_finish_43]
    unfold b_WD_finish_43
    rw [rd_k hv h3, iLt_f (by omega) (by omega) (by omega), fz_eq, iA_n (by omega)]
    rfl
  | succ d ih =>
    intro fuel l1 l4 B hl hb hf
    obtain ⟨m, rfl⟩ : ∃ m, fuel = m + 1 := ⟨fuel - 1, by omega⟩
    obtain ⟨B2, e⟩ := ih m (l1 + 1) (l4 + 1) (aw B l1 0) (by omega) (by omega) (by omega)
    refine ⟨B2, ?_⟩
    rw [frs_WD_finish_43]
    unfold b_WD_finish_43
    rw [rd_k hv h3, iLt_t (by omega) (by omega) (by omega), bl_t (by omega), fz_eq, fz_eq, fz_eq, iA_n (by omega), iA_n (by omega), e, show m + 1 - (d + 1) - 1 = m - d - 1 by omega, show l1 + (d + 1) = l1 + 1 + d by omega]
def bal (n C : Nat) : Prop := (∀ j, j ≤ n → sm C j ≤ j) ∧ sm C n = n
theorem fin_out {C n b : Nat} (h2 : n ≤ 9) (hC : gd n 100 C) : ∀ d fuel l3 B, l3 + d = n + 1 → 1 ≤ l3 → (∀ j, j < l3 → sm C j ≤ j) → d * 40 < fuel → ∃ f B2, fr_WD_finish b C n fuel 0 (l3 - 1 + sm C (l3 - 1)) (sm C (l3 - 1)) l3 B 0 = some (f, B2) ∧ (f = 0 ∨ f = 1 ∧ bal n C) := by
  intro d
  induction d with
  | zero =>
    intro fuel l3 B hl h3 hs hf
    obtain ⟨m, rfl⟩ : ∃ m, fuel = m + 1 := ⟨fuel - 1, by omega⟩
    have hq := hs (l3 - 1) (by omega)
    rw [frs_WD_finish_6]
    unfold b_WD_finish_6
    rw [iLt_t (by omega) (by omega) (by omega)]
    obtain rfl : n = l3 - 1 := by omega
    by_cases h : sm C (l3 - 1) = l3 - 1
    · refine ⟨1, B, ?_, Or.inr ⟨rfl, fun j hj => hs j (by omega), h⟩⟩
      rw [h, iEq_t]
    · refine ⟨0, B, ?_, Or.inl rfl⟩
      rw [iEq_f (by omega) (by omega) h]
  | succ d ih =>
    intro fuel l3 B hl h3 hs hf
    obtain ⟨m, rfl⟩ : ∃ m, fuel = m + 1 := ⟨fuel - 1, by omega⟩
    have hq := hs (l3 - 1) (by omega)
    obtain ⟨v, hv, hr, -⟩ := hC.2 l3 (by omega)
    have hsm : sm C l3 = sm C (l3 - 1) + v := by
      have e := sm_s C (l3 - 1)
      rw [show l3 - 1 + 1 = l3 by omega, hr] at e
      omega
    rw [frs_WD_finish_6]
    unfold b_WD_finish_6
    rw [iLt_f (by omega) (by omega) (by omega), rd_k hr (by omega), iA_n (by omega)]
    by_cases h : l3 < sm C (l3 - 1) + v
    · rw [iLt_t (by omega) (by omega) h]
      exact ⟨0, B, rfl, Or.inl rfl⟩
    · rw [iLt_f (by omega) (by omega) (by omega), bl_t (by omega), fz_eq, fz_eq, fz_eq, iA_n (by omega)]
      obtain ⟨B2, e⟩ := fin_in (n := n) (b := b) (l2 := sm C (l3 - 1) + v) hr (by omega) (by omega) v m (l3 - 1 + sm C (l3 - 1) + 1) 0 (aw B (l3 - 1 + sm C (l3 - 1)) 1) (by omega) (by omega) (by omega)
      rw [e]
      have g := ih (m - v - 1) (l3 + 1) B2 (by omega) (by omega) (fun j hj => by
        by_cases hj2 : j < l3
        · exact hs j hj2
        · obtain rfl : j = l3 := by omega
          omega) (by omega)
      rw [show l3 + 1 - 1 = l3 by omega, hsm] at g
      rw [show l3 - 1 + sm C (l3 - 1) + 1 + v = l3 + (sm C (l3 - 1) + v) by omega]
      exact g
theorem fin_tot {C n : Nat} (h1 : 1 ≤ n) (h2 : n ≤ 9) (hC : gd n 100 C) : ∃ f B, f_WD_finish 0 C n = some (f, B) ∧ (f = 0 ∨ f = 1 ∧ bal n C) := by
  have g := fin_out (b := 0) h2 hC n 1000000 1 0 (by omega) (by omega) (fun j hj => by
    obtain rfl : j = 0 := by omega
    exact Nat.le_refl _) (by omega)
  exact g
/-! every row of closings that may be is one of the words' -/
noncomputable def ckL (n O : Nat) : Bool := oB (f_WD_finish 0 O n) (fun q => fz q.2 (fun B => oB (f_RK_of B n) (fun k => fz k (fun k => bnd (Nat.blt k (cat n)) (oB (f_RK_seek n k 0 0 0) (fun r => bnd (Nat.beq r.1 B) (Nat.beq r.2.1 O)))))))
noncomputable def wk (n d : Nat) : Nat → Nat → Nat → Bool := Nat.rec (motive := fun _ => Nat → Nat → Nat → Bool) (fun _ s O => Bool.rec true (ckL n O) (Nat.beq s n)) (fun _ ih i s O => alB (fun v => fz (aw O i v) (fun O2 => fz (Nat.add s v) (fun s2 => ih (Nat.succ i) s2 O2))) 0 (Nat.succ (Nat.sub i s))) d
theorem wk_s (n d i s O : Nat) : wk n (d + 1) i s O = alB (fun v => fz (aw O i v) (fun O2 => fz (Nat.add s v) (fun s2 => wk n d (Nat.succ i) s2 O2))) 0 (Nat.succ (Nat.sub i s)) := rfl
theorem wk_t {n C : Nat} (h2 : n ≤ 9) (hC : gd n 100 C) (hb : bal n C) : ∀ d i O, i + d = n + 1 → 1 ≤ i → wk n d i (sm C (i - 1)) O = true → O < 2 ^ (33 * 10) → (∀ j, j < 10 → (j < i ∨ n < j) → ag O j = ag C j) → ckL n C = true := by
  intro d
  induction d with
  | zero =>
    intro i O hi h1 h hO hj
    have e : O = C := ov_ext hO hC.1 (fun j h10 => hj j h10 (by omega))
    have h3 : Bool.rec (motive := fun _ => Bool) true (ckL n O) (Nat.beq (sm C (i - 1)) n) = true := h
    rw [show i - 1 = n by omega, hb.2, Nat.beq_refl, e] at h3
    exact h3
  | succ d ih =>
    intro i O hi h1 h hO hj
    obtain ⟨v, hv, hr, -⟩ := hC.2 i (by omega)
    have hsm : sm C i = sm C (i - 1) + v := by
      have e := sm_s C (i - 1)
      rw [show i - 1 + 1 = i by omega, hr] at e
      omega
    have hle := hb.1 i (by omega)
    rw [wk_s] at h
    have h3 := (upTo.z _).ext (a := 0) (m := Nat.succ (Nat.sub i (sm C (i - 1)))) h v (by
      show v < 0 + (i - sm C (i - 1) + 1)
      omega)
    have h4 : fz (aw O i v) (fun O2 => fz (Nat.add (sm C (i - 1)) v) (fun s2 => wk n d (Nat.succ i) s2 O2)) = true := h3
    rw [fz_eq, fz_eq] at h4
    refine ih (i + 1) (aw O i v) (by omega) (by omega) ?_ (aw_lt hO (by omega)) (fun j h10 hj2 => ?_)
    · show wk n d (i + 1) (sm C i) (aw O i v) = true
      rw [hsm]
      exact h4
    · rw [ag_aw]
      by_cases hj3 : i = j
      · subst hj3
        rw [if_pos rfl, Nat.mod_eq_of_lt (by omega), hr]
      · rw [if_neg hj3]
        exact hj j h10 (by omega)
def AllC : Prop := ∀ n, 1 ≤ n → n ≤ 9 → wk n n 1 0 c0 = true
theorem fin_all (hW : AllC) {C n : Nat} (h1 : 1 ≤ n) (h2 : n ≤ 9) (hC : gd n 100 C) : ∃ f B, f_WD_finish 0 C n = some (f, B) ∧ (f = 0 ∨ f = 1 ∧ ∃ k, k < cat n ∧ B = wB n k ∧ C = wC n k) := by
  obtain ⟨f, B, e, h⟩ := fin_tot h1 h2 hC
  refine ⟨f, B, e, ?_⟩
  rcases h with h | ⟨h, hb⟩
  · exact Or.inl h
  · refine Or.inr ⟨h, ?_⟩
    have hc : ckL n C = true := wk_t h2 hC hb n 1 c0 (by omega) (by omega) (hW n h1 h2) (gd_c0 n).1 (fun j h10 hj => by
      obtain ⟨v, -, hr, hz⟩ := hC.2 j h10
      obtain ⟨u, -, hs, hy⟩ := (gd_c0 n).2 j h10
      rw [hr, hs, hz (by omega), hy (by omega)])
    unfold ckL at hc
    obtain ⟨q, e2, hc⟩ := oB_t hc
    rw [e] at e2
    have e2 := Option.some.inj e2
    subst e2
    rw [fz_eq] at hc
    obtain ⟨k, e3, hc⟩ := oB_t hc
    rw [fz_eq] at hc
    obtain ⟨c1, hc⟩ := bnd_t hc
    have c1 := Nat.blt_eq.mp c1
    rw [(w_all h1 h2 c1).1] at hc
    obtain ⟨r, e4, hc⟩ := oB_t hc
    have e4 := Option.some.inj e4
    subst e4
    obtain ⟨c2, c3⟩ := bnd_t hc
    exact ⟨k, c1, (Nat.eq_of_beq_eq_true c2).symm, (Nat.eq_of_beq_eq_true c3).symm⟩
