/-! put, note, rows, families and sizes that are refused -/
theorem facts_put : F_put := by
  intro x y hx hy
  by_cases h : x < 20
  · refine Or.inl ⟨aw 0 x y, (0, aw 0 x y), ?_, fun c => ?_, rfl, fun i => rfl⟩
    · unfold f_CW_put
      rw [iLt_f (by omega) (by omega) (by omega), iLt_t (by omega) (by omega) h, bl_t h]
    · unfold f_MO_put j_MO_put_16
      rw [iLt_f (by omega) (by omega) (by omega), iLt_f (by omega) (by omega) (by omega), iEq_t, bl_t h]
  · refine Or.inr ⟨0, (1, 0), ?_, fun c => ?_, rfl, fun i => ag_0 i⟩
    · unfold f_CW_putX j_CW_putX_10
      by_cases hb : x < 2147483648
      · rw [iLt_f (by omega) (by omega) (by omega), iLt_f (by omega) (by omega) (by omega)]
      · rw [iLt_big (by omega) hx 0 (by omega)]
    · unfold f_MO_put j_MO_put_11 j_MO_put_16
      by_cases hb : x < 2147483648
      · rw [iLt_f (by omega) (by omega) (by omega), iLt_t (by omega) (by omega) (by omega), iEq_f (by omega) (by omega) (by omega)]
      · rw [iLt_big (by omega) hx 0 (by omega), iEq_f (by omega) (by omega) (by omega)]
theorem facts_note : F_note := by
  intro P x hx
  by_cases h : x < 20
  · have hg : ag (pkN P 20) x = xn (P x) + 1 := by rw [ag_pkN, if_pos h]
    refine Or.inl ⟨xn (P x), (xn (P x), 0), ?_, fun c => ?_, rfl, rfl⟩
    · unfold f_CW_note
      rw [iLt_f (by omega) (by omega) (by omega), iLt_t (by omega) (by omega) h, rd_k hg h]
    · unfold f_MO_note j_MO_note_16
      rw [iLt_f (by omega) (by omega) (by omega), iLt_f (by omega) (by omega) (by omega), iEq_t, rd_k hg h]
  · refine Or.inr ⟨0, (0, 1), ?_, fun c => ?_, rfl⟩
    · unfold f_CW_noteX j_CW_noteX_10
      by_cases hb : x < 2147483648
      · rw [iLt_f (by omega) (by omega) (by omega), iLt_f (by omega) (by omega) (by omega)]
      · rw [iLt_big (by omega) hx 0 (by omega)]
    · unfold f_MO_note j_MO_note_11 j_MO_note_16
      by_cases hb : x < 2147483648
      · rw [iLt_f (by omega) (by omega) (by omega), iLt_t (by omega) (by omega) (by omega), iEq_f (by omega) (by omega) (by omega)]
      · rw [iLt_big (by omega) hx 0 (by omega), iEq_f (by omega) (by omega) (by omega)]
theorem oob {α : Type} {x m : Nat} {X Y : α} (hx : x < 4294967296) (hm : m < 2147483648) (h : m < x) : (bif iLt x 0 then X else (bif iLt m x then X else Y)) = X := by
  by_cases hb : x < 2147483648
  · rw [iLt_f hb (by omega) (by omega), iLt_t hm hb h]
  · rw [iLt_big (by omega) hx 0 (by omega)]
theorem inb {α : Type} {x m : Nat} {X Y : α} (hm : m < 2147483648) (h : x ≤ m) : (bif iLt x 0 then X else (bif iLt m x then X else Y)) = Y := by
  rw [iLt_f (by omega) (by omega) (by omega), iLt_f hm (by omega) h]
theorem frc_MO_rows (x y c k : Nat) : fr_MO_rows x y c k = fr_MO_rows x y 0 k := rfl
theorem rows_c (x y c : Nat) : f_MO_rows x y c = f_MO_rows x y 0 := by
  unfold f_MO_rows
  rw [frc_MO_rows x y c]
  generalize fr_MO_rows x y 0 1000000 = ih
  rfl
noncomputable def ckRows (x y : Nat) : Bool := Option.rec false (fun r => Option.rec false (fun t => Nat.beq t.1 r && Nat.beq t.2 0) (f_MO_rows x y 0)) (f_CW_rows x y)
set_option maxRecDepth 100000 in
theorem ckRows_all : ∀ x < 16, ∀ y < 16, ckRows x y = true := by decide +kernel
theorem facts_rows : F_rows := by
  intro x y hx hy
  by_cases h : x < 16 ∧ y < 16
  · have hk := ckRows_all x h.1 y h.2
    unfold ckRows at hk
    cases h1 : f_CW_rows x y with
    | none => rw [h1] at hk; cases hk
    | some r =>
      rw [h1] at hk
      cases h2 : f_MO_rows x y 0 with
      | none => rw [h2] at hk; cases hk
      | some t =>
        rw [h2] at hk
        have hk2 : (Nat.beq t.1 r && Nat.beq t.2 0) = true := hk
        rw [Bool.and_eq_true] at hk2
        exact Or.inl ⟨r, t, rfl, fun c => (rows_c x y c).trans h2, Nat.eq_of_beq_eq_true hk2.1, Nat.eq_of_beq_eq_true hk2.2⟩
  · refine Or.inr ⟨0, (0, 1), ?_, fun c => ?_, rfl⟩
    · unfold f_CW_rowsX j_CW_rowsX_20
      by_cases h1 : x < 16
      · rw [inb (by omega) (by omega), oob hy (by omega) (by omega)]
      · rw [oob hx (by omega) (by omega)]
    · rw [rows_c]
      unfold f_MO_rows
      generalize fr_MO_rows x y 0 1000000 = ih
      unfold e_MO_rows j_MO_rows_21 j_MO_rows_26
      by_cases h1 : x < 16
      · rw [inb (by omega) (by omega), oob hy (by omega) (by omega), iLt_t (by omega) (by omega) (by omega)]
      · rw [oob hx (by omega) (by omega), iLt_t (by omega) (by omega) (by omega)]
theorem fam_no {x : Nat} (hx : x < 4294967296) (h : 6 ≤ x) : f_CW_isFamily x = some 0 := by
  unfold f_CW_isFamily
  by_cases hb : x < 2147483648
  · rw [iLt_f hb (by omega) (by omega), iLt_f hb (by omega) h]
  · rw [iLt_big (by omega) hx 0 (by omega)]
theorem showX_no {x : Nat} (hx : x < 4294967296) (h : 6 ≤ x) : f_CW_showX x = some 0 := by
  unfold f_CW_showX
  rw [fam_no hx h]
  show (bif iEq 0 0 then some 0 else none) = some 0
  rw [iEq_t]
theorem takeX_no {x : Nat} (hx : x < 4294967296) (h : 6 ≤ x) : f_CW_takeX x = some 0 := showX_no hx h
theorem facts_showX (wB : Nat → Nat → Nat) (cat : Nat → Nat) : F_showX wB cat := by
  intro n k x h1 h2 h3 hx h6
  refine ⟨0, (0, 1, 0, 0, 0, 0, 0, 0), showX_no hx h6, fun c => ?_, rfl, fun i => ag_0 i⟩
  unfold f_MO_show j_MO_show_10 j_MO_show_15
  rw [oob hx (by omega) (by omega), iEq_f (by omega) (by omega) (by omega)]
theorem facts_takeX (wB : Nat → Nat → Nat) (cat : Nat → Nat) : F_takeX wB cat := by
  intro P n k x h1 h2 h3 hx h6
  refine ⟨0, (0, 1, wB n k), takeX_no hx h6, fun c => ?_, rfl, fun _ _ => rfl⟩
  unfold f_MO_takeF j_MO_takeF_10 j_MO_takeF_15
  rw [oob hx (by omega) (by omega), iLt_t (by omega) (by omega) (by omega)]
