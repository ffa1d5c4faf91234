/-! numbers below 2^31; 'same' and 'copy' of the reference -/
theorem rd_k {α : Type} {O n i v : Nat} {k : Nat → Option α} (h : ag O i = v + 1) (hi : i < n) : rd O n i k = k v := by
  unfold rd
  rw [h]
  have : Nat.blt i n = true := by simpa [Nat.blt_eq] using hi
  rw [this]
  rfl
theorem bl_t {α : Type} {i n : Nat} {X Y : α} (h : i < n) : (bif Nat.blt i n then X else Y) = X := by
  have : Nat.blt i n = true := by simpa [Nat.blt_eq] using h
  rw [this]; rfl
theorem bl_f {α : Type} {i n : Nat} {X Y : α} (h : n ≤ i) : (bif Nat.blt i n then X else Y) = Y := by
  have : Nat.blt i n = false := by
    cases hb : Nat.blt i n
    · rfl
    · have := Nat.blt_eq.mp hb; omega
  rw [this]; rfl
theorem iLt_n {a b : Nat} (ha : a < 2147483648) (hb : b < 2147483648) : iLt a b = Nat.blt a b := by
  rw [iLt_eq, Nat.mod_eq_of_lt (by omega), Nat.mod_eq_of_lt (by omega)]
  cases h : Nat.blt a b
  · cases h2 : Nat.blt (a + 2147483648) (b + 2147483648)
    · rfl
    · have := Nat.blt_eq.mp h2
      have h3 : Nat.blt a b = true := Nat.blt_eq.mpr (by omega)
      rw [h] at h3; cases h3
  · exact Nat.blt_eq.mpr (by have := Nat.blt_eq.mp h; omega)
theorem iEq_n {a b : Nat} (ha : a < 4294967296) (hb : b < 4294967296) : iEq a b = Nat.beq a b := by
  rw [iEq_eq, Nat.mod_eq_of_lt ha, Nat.mod_eq_of_lt hb]
theorem iA_n {a b : Nat} (h : a + b < 4294967296) : iA a b = a + b := by rw [iA_eq, Nat.mod_eq_of_lt h]
theorem iS_n {a b : Nat} (h : b ≤ a) (ha : a < 4294967296) : iS a b = a - b := by
  rw [iS_eq, Nat.mod_eq_of_lt (by omega : b < 4294967296)]
  have : a + (4294967296 - b) = (a - b) + 4294967296 := by omega
  rw [this, Nat.add_mod_right, Nat.mod_eq_of_lt (by omega)]
theorem iM_n {a b : Nat} (h : a * b < 4294967296) : iM a b = a * b := by rw [iM_eq, Nat.mod_eq_of_lt h]
theorem iLt_t {α : Type} {a b : Nat} {X Y : α} (ha : a < 2147483648) (hb : b < 2147483648) (h : a < b) : (bif iLt a b then X else Y) = X := by rw [iLt_n ha hb]; exact bl_t h
theorem iLt_f {α : Type} {a b : Nat} {X Y : α} (ha : a < 2147483648) (hb : b < 2147483648) (h : b ≤ a) : (bif iLt a b then X else Y) = Y := by rw [iLt_n ha hb]; exact bl_f h
theorem iEq_t {α : Type} {a : Nat} {X Y : α} : (bif iEq a a then X else Y) = X := by
  rw [iEq_eq, Nat.beq_refl]; rfl
theorem iEq_f {α : Type} {a b : Nat} {X Y : α} (ha : a < 4294967296) (hb : b < 4294967296) (h : a ≠ b) : (bif iEq a b then X else Y) = Y := by
  rw [iEq_n ha hb]
  have : Nat.beq a b = false := by
    cases hc : Nat.beq a b
    · rfl
    · exact absurd (Nat.eq_of_beq_eq_true hc) h
  rw [this]; rfl
/-! 'same': does every entry below m agree -/
noncomputable def gs_b (na nb A B : Nat) (ih : Nat → Nat → Nat → Option Nat) (l3 l4 l5 : Nat) : Option Nat := bif iLt l5 l3 then (bif iEq l4 0 then fz (iA l5 1) (fun u => ih l3 0 u) else rd A na l5 (fun v1 => rd B nb l5 (fun v2 => bif iEq v1 v2 then fz (iA l5 1) (fun u => ih l3 1 u) else fz (iA l5 1) (fun u => ih l3 0 u)))) else (bif Nat.blt l4 2 then some l4 else none)
noncomputable def gs_fr (na nb A B k : Nat) : Nat → Nat → Nat → Option Nat := Nat.rec (motive := fun _ => Nat → Nat → Nat → Option Nat) (fun _ _ _ => none) (fun _ ih a0 a1 a2 => gs_b na nb A B ih a0 a1 a2) k
theorem same_tw_fr (m W T k : Nat) : fr_MO_same_tried_word m W T k = gs_fr 18 18 T W k := rfl
theorem same_tw_eq (m W T : Nat) : f_MO_same_tried_word m W T = gs_fr 18 18 T W 1000000 m 1 0 := by
  unfold f_MO_same_tried_word e_MO_same_tried_word
  rw [same_tw_fr]
theorem same_sn_fr (m N S k : Nat) : fr_MO_same_shown_note m N S k = gs_fr 20 20 S N k := rfl
theorem same_sn_eq (m N S : Nat) : f_MO_same_shown_note m N S = gs_fr 20 20 S N 1000000 m 1 0 := by
  unfold f_MO_same_shown_note e_MO_same_shown_note
  rw [same_sn_fr]
theorem same_sw_fr (m S N k : Nat) : fr_MO_same_shown_wanted m S N k = gs_fr 20 20 S N k := rfl
theorem same_sw_eq (m S N : Nat) : f_MO_same_shown_wanted m S N = gs_fr 20 20 S N 1000000 m 1 0 := by
  unfold f_MO_same_shown_wanted e_MO_same_shown_wanted
  rw [same_sw_fr]
def kno (A m : Nat) : Prop := ∀ i, i < m → ∃ v, v < 4294967296 ∧ ag A i = v + 1
theorem gs_go {na nb A B m : Nat} (h1 : m ≤ na) (h2 : m ≤ nb) (hb : m < 2147483647) (hA : kno A m) (hB : kno B m) : ∀ d fuel l5, l5 + d = m → d < fuel →
    gs_fr na nb A B fuel m 0 l5 = some 0 ∧ ((∀ i, l5 ≤ i → i < m → ag A i = ag B i) → gs_fr na nb A B fuel m 1 l5 = some 1) ∧ ((∃ i, l5 ≤ i ∧ i < m ∧ ag A i ≠ ag B i) → gs_fr na nb A B fuel m 1 l5 = some 0) := by
  intro d
  induction d with
  | zero =>
    intro fuel l5 hl hf
    obtain ⟨k, rfl⟩ : ∃ k, fuel = k + 1 := ⟨fuel - 1, by omega⟩
    have e : ∀ l4, l4 < 2 → gs_fr na nb A B (k + 1) m l4 l5 = some l4 := fun l4 h4 => by
      show gs_b na nb A B (gs_fr na nb A B k) m l4 l5 = _
      unfold gs_b
      rw [iLt_f (by omega) (by omega) (by omega), bl_t h4]
    exact ⟨e 0 (by omega), fun _ => e 1 (by omega), fun ⟨i, q1, q2, _⟩ => by omega⟩
  | succ d ih =>
    intro fuel l5 hl hf
    obtain ⟨k, rfl⟩ : ∃ k, fuel = k + 1 := ⟨fuel - 1, by omega⟩
    obtain ⟨i1, i2, i3⟩ := ih k (l5 + 1) (by omega) (by omega)
    obtain ⟨v1, hv1, e1⟩ := hA l5 (by omega)
    obtain ⟨v2, hv2, e2⟩ := hB l5 (by omega)
    have st : ∀ l4, gs_fr na nb A B (k + 1) m l4 l5 = gs_b na nb A B (gs_fr na nb A B k) m l4 l5 := fun _ => rfl
    have one : gs_fr na nb A B (k + 1) m 1 l5 = gs_fr na nb A B k m (if v1 = v2 then 1 else 0) (l5 + 1) := by
      rw [st]
      unfold gs_b
      rw [iLt_t (by omega) (by omega) (by omega), iEq_f (by omega) (by omega) (by omega), rd_k e1 (by omega), rd_k e2 (by omega), fz_eq, fz_eq, iA_n (by omega)]
      by_cases hv : v1 = v2
      · rw [if_pos hv, hv, iEq_t]
      · rw [if_neg hv, iEq_f hv1 hv2 hv]
    refine ⟨?_, fun h => ?_, fun ⟨i, q1, q2, q3⟩ => ?_⟩
    · rw [st]
      unfold gs_b
      rw [iLt_t (by omega) (by omega) (by omega), iEq_t, fz_eq, iA_n (by omega)]
      exact i1
    · have h5 := h l5 (Nat.le_refl _) (by omega)
      rw [e1, e2] at h5
      rw [one, if_pos (by omega)]
      exact i2 fun i q1 q2 => h i (by omega) q2
    · rw [one]
      by_cases hv : v1 = v2
      · rw [if_pos hv]
        refine i3 ⟨i, ?_, q2, q3⟩
        by_cases hi : i = l5
        · subst hi
          rw [e1, e2, hv] at q3
          exact absurd rfl q3
        · omega
      · rw [if_neg hv]
        exact i1
theorem gs_t {na nb A B m : Nat} (h1 : m ≤ na) (h2 : m ≤ nb) (hb : m < 1000000) (hA : kno A m) (hB : kno B m) (h : ∀ i, i < m → ag A i = ag B i) : gs_fr na nb A B 1000000 m 1 0 = some 1 := (gs_go h1 h2 (by omega) hA hB m 1000000 0 (by omega) hb).2.1 fun i _ q => h i q
theorem gs_f {na nb A B m : Nat} (h1 : m ≤ na) (h2 : m ≤ nb) (hb : m < 1000000) (hA : kno A m) (hB : kno B m) (h : ∃ i, i < m ∧ ag A i ≠ ag B i) : gs_fr na nb A B 1000000 m 1 0 = some 0 := by
  obtain ⟨i, q1, q2⟩ := h
  exact (gs_go h1 h2 (by omega) hA hB m 1000000 0 (by omega) hb).2.2 ⟨i, Nat.zero_le _, q1, q2⟩
/-! 'copy' -/
noncomputable def gc_b (na nb A : Nat) (ih : Nat → Nat → Nat → Option Nat) (l3 l4 y : Nat) : Option Nat := bif iLt l4 l3 then (rd A na l4 (fun v1 => bif Nat.blt l4 nb then fz (iA l4 1) (fun u2 => fz (aw y l4 v1) (fun u3 => ih l3 u2 u3)) else none)) else some y
noncomputable def gc_fr (na nb A k : Nat) : Nat → Nat → Nat → Option Nat := Nat.rec (motive := fun _ => Nat → Nat → Nat → Option Nat) (fun _ _ _ => none) (fun _ ih a0 a1 a2 => gc_b na nb A ih a0 a1 a2) k
theorem copy_tw_fr (m W T k : Nat) : fr_MO_copy_tried_word m W T k = gc_fr 18 18 T k := rfl
theorem copy_tw_eq (m W T : Nat) : f_MO_copy_tried_word m W T = gc_fr 18 18 T 1000000 m 0 W := by
  unfold f_MO_copy_tried_word e_MO_copy_tried_word
  rw [copy_tw_fr]
theorem copy_ww_fr (m W T k : Nat) : fr_MO_copy_wanted_word m W T k = gc_fr 20 18 T k := rfl
theorem copy_ww_eq (m W T : Nat) : f_MO_copy_wanted_word m W T = gc_fr 20 18 T 1000000 m 0 W := by
  unfold f_MO_copy_wanted_word e_MO_copy_wanted_word
  rw [copy_ww_fr]
theorem gc_go {na nb A m : Nat} (h1 : m ≤ na) (h2 : m ≤ nb) (hb : m < 2147483647) (hA : kno A m) : ∀ d fuel l4 y, l4 + d = m → d < fuel →
    ∃ O, gc_fr na nb A fuel m l4 y = some O ∧ ∀ i, ag O i = if l4 ≤ i ∧ i < m then ag A i else ag y i := by
  intro d
  induction d with
  | zero =>
    intro fuel l4 y hl hf
    obtain ⟨k, rfl⟩ : ∃ k, fuel = k + 1 := ⟨fuel - 1, by omega⟩
    refine ⟨y, ?_, fun i => by rw [if_neg (by omega)]⟩
    show gc_b na nb A (gc_fr na nb A k) m l4 y = _
    unfold gc_b
    rw [iLt_f (by omega) (by omega) (by omega)]
  | succ d ih =>
    intro fuel l4 y hl hf
    obtain ⟨k, rfl⟩ : ∃ k, fuel = k + 1 := ⟨fuel - 1, by omega⟩
    obtain ⟨v, hv, e⟩ := hA l4 (by omega)
    obtain ⟨O, hO, hi⟩ := ih k (l4 + 1) (aw y l4 v) (by omega) (by omega)
    refine ⟨O, ?_, fun i => ?_⟩
    · show gc_b na nb A (gc_fr na nb A k) m l4 y = _
      unfold gc_b
      rw [iLt_t (by omega) (by omega) (by omega), rd_k e (by omega), bl_t (by omega), fz_eq, fz_eq, iA_n (by omega)]
      exact hO
    · rw [hi i, ag_aw]
      by_cases h : l4 = i
      · subst h
        rw [if_neg (by omega), if_pos rfl, if_pos (by omega), e, Nat.mod_eq_of_lt hv]
      · rw [if_neg h]
        by_cases h3 : l4 + 1 ≤ i ∧ i < m
        · rw [if_pos h3, if_pos (by omega)]
        · rw [if_neg h3, if_neg (by omega)]
theorem gc_t {na nb A m : Nat} (h1 : m ≤ na) (h2 : m ≤ nb) (hb : m < 1000000) (hA : kno A m) (y : Nat) : ∃ O, gc_fr na nb A 1000000 m 0 y = some O ∧ ∀ i, ag O i = if i < m then ag A i else ag y i := by
  obtain ⟨O, e, h⟩ := gc_go h1 h2 (by omega) hA m 1000000 0 y (by omega) hb
  exact ⟨O, e, fun i => by rw [h i]; simp⟩
/-! put, note -/
theorem iLt_big {α : Type} {x : Nat} {X Y : α} (h1 : 2147483648 ≤ x) (h2 : x < 4294967296) (b : Nat) (hb : b < 2147483648) : (bif iLt x b then X else Y) = X := by
  rw [iLt_eq]
  have : Nat.blt ((x + 2147483648) % 4294967296) ((b + 2147483648) % 4294967296) = true := Nat.blt_eq.mpr (by omega)
  rw [this]
  rfl
theorem iLt_big2 {α : Type} {x : Nat} {X Y : α} (h1 : 2147483648 ≤ x) (h2 : x < 4294967296) (b : Nat) (hb : b < 2147483648) : (bif iLt b x then X else Y) = Y := by
  rw [iLt_eq]
  have : Nat.blt ((b + 2147483648) % 4294967296) ((x + 2147483648) % 4294967296) = false := by
    cases hc : Nat.blt ((b + 2147483648) % 4294967296) ((x + 2147483648) % 4294967296) with
    | false => rfl
    | true =>
      have := Nat.blt_eq.mp hc
      omega
  rw [this]
  rfl
