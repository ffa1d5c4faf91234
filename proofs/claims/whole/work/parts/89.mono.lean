/-! what the class reads out of a note, when more is known -/
theorem mono_fr_BR_read {z_p0 z_p1_closings z_p1_pairs z_p02 : Nat} (h : sbO z_p0 z_p02) : ∀ (k a0 a1 a2 : Nat), ole (fr_BR_read z_p0 z_p1_closings z_p1_pairs k a0 a1 a2) (fr_BR_read z_p02 z_p1_closings z_p1_pairs k a0 a1 a2) := by
  intro k
  induction k with
  | zero => intros; exact ole_nn _
  | succ k ih =>
    intro a0 a1 a2
    show ole (b_BR_read_5 (fr_BR_read z_p0 z_p1_closings z_p1_pairs k) z_p0 z_p1_closings z_p1_pairs a0 a1 a2) (b_BR_read_5 (fr_BR_read z_p02 z_p1_closings z_p1_pairs k) z_p02 z_p1_closings z_p1_pairs a0 a1 a2)
    unfold b_BR_read_5 j_BR_read_33
    repeat' first
      | with_reducible apply ih
      | with_reducible refine ole_bif ?_ ?_
      | with_reducible refine ole_fz (fun _ => ?_)
      | with_reducible refine ole_rd h (fun _ => ?_)
      | with_reducible refine ole_rd (sbO_rfl _) (fun _ => ?_)
      | with_reducible refine ole_bnd (ole_rfl _) (fun _ => ?_)
      | with_reducible exact ole_rfl _
theorem mono_BR_read {z_p0 z_p1_closings z_p1_pairs z_p02 : Nat} (h : sbO z_p0 z_p02) : ole (f_BR_read z_p0 z_p1_closings z_p1_pairs) (f_BR_read z_p02 z_p1_closings z_p1_pairs) := by
  have ih := mono_fr_BR_read (z_p0 := z_p0) (z_p1_closings := z_p1_closings) (z_p1_pairs := z_p1_pairs) h 1000000
  unfold f_BR_read e_BR_read
  repeat' first
    | with_reducible apply ih
    | with_reducible refine ole_bif ?_ ?_
    | with_reducible refine ole_fz (fun _ => ?_)
    | with_reducible refine ole_rd h (fun _ => ?_)
    | with_reducible refine ole_rd (sbO_rfl _) (fun _ => ?_)
    | with_reducible refine ole_bnd (ole_rfl _) (fun _ => ?_)
    | with_reducible exact ole_rfl _
theorem mono_fr_BT_read {z_t_ends z_p0 z_p1_closings z_p1_pairs z_p02 : Nat} (h : sbO z_p0 z_p02) : ∀ (k a0 a1 a2 a3 : Nat), ole (fr_BT_read z_t_ends z_p0 z_p1_closings z_p1_pairs k a0 a1 a2 a3) (fr_BT_read z_t_ends z_p02 z_p1_closings z_p1_pairs k a0 a1 a2 a3) := by
  intro k
  induction k with
  | zero => intros; exact ole_nn _
  | succ k ih =>
    intro a0 a1 a2 a3
    show ole (b_BT_read_16 (fr_BT_read z_t_ends z_p0 z_p1_closings z_p1_pairs k) z_t_ends z_p0 z_p1_closings z_p1_pairs a0 a1 a2 a3) (b_BT_read_16 (fr_BT_read z_t_ends z_p02 z_p1_closings z_p1_pairs k) z_t_ends z_p02 z_p1_closings z_p1_pairs a0 a1 a2 a3)
    unfold b_BT_read_16 j_BT_read_72 j_BT_read_92
    repeat' first
      | with_reducible apply ih
      | with_reducible refine ole_bif ?_ ?_
      | with_reducible refine ole_fz (fun _ => ?_)
      | with_reducible refine ole_rd h (fun _ => ?_)
      | with_reducible refine ole_rd (sbO_rfl _) (fun _ => ?_)
      | with_reducible refine ole_bnd (ole_rfl _) (fun _ => ?_)
      | with_reducible exact ole_rfl _
theorem mono_BT_read {z_t_ends z_p0 z_p1_closings z_p1_pairs z_p02 : Nat} (h : sbO z_p0 z_p02) : ole (f_BT_read z_t_ends z_p0 z_p1_closings z_p1_pairs) (f_BT_read z_t_ends z_p02 z_p1_closings z_p1_pairs) := by
  have ih := mono_fr_BT_read (z_t_ends := z_t_ends) (z_p0 := z_p0) (z_p1_closings := z_p1_closings) (z_p1_pairs := z_p1_pairs) h 1000000
  unfold f_BT_read e_BT_read
  repeat' first
    | with_reducible apply ih
    | with_reducible refine ole_bif ?_ ?_
    | with_reducible refine ole_fz (fun _ => ?_)
    | with_reducible refine ole_rd h (fun _ => ?_)
    | with_reducible refine ole_rd (sbO_rfl _) (fun _ => ?_)
    | with_reducible refine ole_bnd (ole_rfl _) (fun _ => ?_)
    | with_reducible exact ole_rfl _
theorem mono_fr_PT_read {z_t_lasts z_p0 z_p1_closings z_p1_pairs z_p02 : Nat} (h : sbO z_p0 z_p02) : ∀ (k hh a0 a1 a2 a3 : Nat), ole (fr_PT_read z_t_lasts z_p0 z_p1_closings z_p1_pairs k hh a0 a1 a2 a3) (fr_PT_read z_t_lasts z_p02 z_p1_closings z_p1_pairs k hh a0 a1 a2 a3) := by
  intro k
  induction k with
  | zero => intros; exact ole_nn _
  | succ k ih =>
    intro hh a0 a1 a2 a3
    match hh with
    | 0 =>
      show ole (b_PT_read_8 (fr_PT_read z_t_lasts z_p0 z_p1_closings z_p1_pairs k) z_t_lasts z_p0 z_p1_closings z_p1_pairs a0 a1 a2 a3) (b_PT_read_8 (fr_PT_read z_t_lasts z_p02 z_p1_closings z_p1_pairs k) z_t_lasts z_p02 z_p1_closings z_p1_pairs a0 a1 a2 a3)
      unfold b_PT_read_8
      repeat' first
        | with_reducible apply ih
        | with_reducible refine ole_bif ?_ ?_
        | with_reducible refine ole_fz (fun _ => ?_)
        | with_reducible refine ole_rd h (fun _ => ?_)
        | with_reducible refine ole_rd (sbO_rfl _) (fun _ => ?_)
        | with_reducible refine ole_bnd (ole_rfl _) (fun _ => ?_)
        | with_reducible exact ole_rfl _
    | 1 =>
      show ole (b_PT_read_32 (fr_PT_read z_t_lasts z_p0 z_p1_closings z_p1_pairs k) z_t_lasts z_p0 z_p1_closings z_p1_pairs a0 a1 a2) (b_PT_read_32 (fr_PT_read z_t_lasts z_p02 z_p1_closings z_p1_pairs k) z_t_lasts z_p02 z_p1_closings z_p1_pairs a0 a1 a2)
      unfold b_PT_read_32 j_PT_read_80
      repeat' first
        | with_reducible apply ih
        | with_reducible refine ole_bif ?_ ?_
        | with_reducible refine ole_fz (fun _ => ?_)
        | with_reducible refine ole_rd h (fun _ => ?_)
        | with_reducible refine ole_rd (sbO_rfl _) (fun _ => ?_)
        | with_reducible refine ole_bnd (ole_rfl _) (fun _ => ?_)
        | with_reducible exact ole_rfl _
    | _ + 2 => exact ole_nn _
theorem mono_PT_read {z_t_lasts z_p0 z_p1_closings z_p1_pairs z_p02 : Nat} (h : sbO z_p0 z_p02) : ole (f_PT_read z_t_lasts z_p0 z_p1_closings z_p1_pairs) (f_PT_read z_t_lasts z_p02 z_p1_closings z_p1_pairs) := by
  have ih := mono_fr_PT_read (z_t_lasts := z_t_lasts) (z_p0 := z_p0) (z_p1_closings := z_p1_closings) (z_p1_pairs := z_p1_pairs) h 1000000
  unfold f_PT_read e_PT_read
  repeat' first
    | with_reducible apply ih
    | with_reducible refine ole_bif ?_ ?_
    | with_reducible refine ole_fz (fun _ => ?_)
    | with_reducible refine ole_rd h (fun _ => ?_)
    | with_reducible refine ole_rd (sbO_rfl _) (fun _ => ?_)
    | with_reducible refine ole_bnd (ole_rfl _) (fun _ => ?_)
    | with_reducible exact ole_rfl _
theorem mono_fr_TR_read {z_t_lows z_t_highs z_t_diagonals z_p0 z_p1_closings z_p1_pairs z_p02 : Nat} (h : sbO z_p0 z_p02) : ∀ (k a0 a1 a2 a3 a4 : Nat), ole (fr_TR_read z_t_lows z_t_highs z_t_diagonals z_p0 z_p1_closings z_p1_pairs k a0 a1 a2 a3 a4) (fr_TR_read z_t_lows z_t_highs z_t_diagonals z_p02 z_p1_closings z_p1_pairs k a0 a1 a2 a3 a4) := by
  intro k
  induction k with
  | zero => intros; exact ole_nn _
  | succ k ih =>
    intro a0 a1 a2 a3 a4
    show ole (b_TR_read_12 (fr_TR_read z_t_lows z_t_highs z_t_diagonals z_p0 z_p1_closings z_p1_pairs k) z_t_lows z_t_highs z_t_diagonals z_p0 z_p1_closings z_p1_pairs a0 a1 a2 a3 a4) (b_TR_read_12 (fr_TR_read z_t_lows z_t_highs z_t_diagonals z_p02 z_p1_closings z_p1_pairs k) z_t_lows z_t_highs z_t_diagonals z_p02 z_p1_closings z_p1_pairs a0 a1 a2 a3 a4)
    unfold b_TR_read_12
    repeat' first
      | with_reducible apply ih
      | with_reducible refine ole_bif ?_ ?_
      | with_reducible refine ole_fz (fun _ => ?_)
      | with_reducible refine ole_rd h (fun _ => ?_)
      | with_reducible refine ole_rd (sbO_rfl _) (fun _ => ?_)
      | with_reducible refine ole_bnd (ole_rfl _) (fun _ => ?_)
      | with_reducible exact ole_rfl _
theorem mono_TR_read {z_t_lows z_t_highs z_t_diagonals z_p0 z_p1_closings z_p1_pairs z_p02 : Nat} (h : sbO z_p0 z_p02) : ole (f_TR_read z_t_lows z_t_highs z_t_diagonals z_p0 z_p1_closings z_p1_pairs) (f_TR_read z_t_lows z_t_highs z_t_diagonals z_p02 z_p1_closings z_p1_pairs) := by
  have ih := mono_fr_TR_read (z_t_lows := z_t_lows) (z_t_highs := z_t_highs) (z_t_diagonals := z_t_diagonals) (z_p0 := z_p0) (z_p1_closings := z_p1_closings) (z_p1_pairs := z_p1_pairs) h 1000000
  unfold f_TR_read e_TR_read
  repeat' first
    | with_reducible apply ih
    | with_reducible refine ole_bif ?_ ?_
    | with_reducible refine ole_fz (fun _ => ?_)
    | with_reducible refine ole_rd h (fun _ => ?_)
    | with_reducible refine ole_rd (sbO_rfl _) (fun _ => ?_)
    | with_reducible refine ole_bnd (ole_rfl _) (fun _ => ?_)
    | with_reducible exact ole_rfl _
theorem mono_fr_PA_read {z_t_greatests z_p0 z_p1_closings z_p1_pairs z_p02 : Nat} (h : sbO z_p0 z_p02) : ∀ (k hh a0 a1 a2 a3 : Nat), ole (fr_PA_read z_t_greatests z_p0 z_p1_closings z_p1_pairs k hh a0 a1 a2 a3) (fr_PA_read z_t_greatests z_p02 z_p1_closings z_p1_pairs k hh a0 a1 a2 a3) := by
  intro k
  induction k with
  | zero => intros; exact ole_nn _
  | succ k ih =>
    intro hh a0 a1 a2 a3
    match hh with
    | 0 =>
      show ole (b_PA_read_8 (fr_PA_read z_t_greatests z_p0 z_p1_closings z_p1_pairs k) z_t_greatests z_p0 z_p1_closings z_p1_pairs a0 a1 a2 a3) (b_PA_read_8 (fr_PA_read z_t_greatests z_p02 z_p1_closings z_p1_pairs k) z_t_greatests z_p02 z_p1_closings z_p1_pairs a0 a1 a2 a3)
      unfold b_PA_read_8 j_PA_read_43
      repeat' first
        | with_reducible apply ih
        | with_reducible refine ole_bif ?_ ?_
        | with_reducible refine ole_fz (fun _ => ?_)
        | with_reducible refine ole_rd h (fun _ => ?_)
        | with_reducible refine ole_rd (sbO_rfl _) (fun _ => ?_)
        | with_reducible refine ole_bnd (ole_rfl _) (fun _ => ?_)
        | with_reducible exact ole_rfl _
    | 1 =>
      show ole (b_PA_read_52 (fr_PA_read z_t_greatests z_p0 z_p1_closings z_p1_pairs k) z_t_greatests z_p0 z_p1_closings z_p1_pairs a0 a1 a2 a3) (b_PA_read_52 (fr_PA_read z_t_greatests z_p02 z_p1_closings z_p1_pairs k) z_t_greatests z_p02 z_p1_closings z_p1_pairs a0 a1 a2 a3)
      unfold b_PA_read_52 j_PA_read_89
      repeat' first
        | with_reducible apply ih
        | with_reducible refine ole_bif ?_ ?_
        | with_reducible refine ole_fz (fun _ => ?_)
        | with_reducible refine ole_rd h (fun _ => ?_)
        | with_reducible refine ole_rd (sbO_rfl _) (fun _ => ?_)
        | with_reducible refine ole_bnd (ole_rfl _) (fun _ => ?_)
        | with_reducible exact ole_rfl _
    | _ + 2 => exact ole_nn _
theorem mono_PA_read {z_t_greatests z_p0 z_p1_closings z_p1_pairs z_p02 : Nat} (h : sbO z_p0 z_p02) : ole (f_PA_read z_t_greatests z_p0 z_p1_closings z_p1_pairs) (f_PA_read z_t_greatests z_p02 z_p1_closings z_p1_pairs) := by
  have ih := mono_fr_PA_read (z_t_greatests := z_t_greatests) (z_p0 := z_p0) (z_p1_closings := z_p1_closings) (z_p1_pairs := z_p1_pairs) h 1000000
  unfold f_PA_read e_PA_read
  repeat' first
    | with_reducible apply ih
    | with_reducible refine ole_bif ?_ ?_
    | with_reducible refine ole_fz (fun _ => ?_)
    | with_reducible refine ole_rd h (fun _ => ?_)
    | with_reducible refine ole_rd (sbO_rfl _) (fun _ => ?_)
    | with_reducible refine ole_bnd (ole_rfl _) (fun _ => ?_)
    | with_reducible exact ole_rfl _
theorem mono_fr_PE_read {z_t_openers z_p0 z_p1_closings z_p1_pairs z_p02 : Nat} (h : sbO z_p0 z_p02) : ∀ (k hh a0 a1 a2 a3 a4 : Nat), ole (fr_PE_read z_t_openers z_p0 z_p1_closings z_p1_pairs k hh a0 a1 a2 a3 a4) (fr_PE_read z_t_openers z_p02 z_p1_closings z_p1_pairs k hh a0 a1 a2 a3 a4) := by
  intro k
  induction k with
  | zero => intros; exact ole_nn _
  | succ k ih =>
    intro hh a0 a1 a2 a3 a4
    match hh with
    | 0 =>
      show ole (b_PE_read_16 (fr_PE_read z_t_openers z_p0 z_p1_closings z_p1_pairs k) z_t_openers z_p0 z_p1_closings z_p1_pairs a0 a1 a2 a3) (b_PE_read_16 (fr_PE_read z_t_openers z_p02 z_p1_closings z_p1_pairs k) z_t_openers z_p02 z_p1_closings z_p1_pairs a0 a1 a2 a3)
      unfold b_PE_read_16 j_PE_read_51
      repeat' first
        | with_reducible apply ih
        | with_reducible refine ole_bif ?_ ?_
        | with_reducible refine ole_fz (fun _ => ?_)
        | with_reducible refine ole_rd h (fun _ => ?_)
        | with_reducible refine ole_rd (sbO_rfl _) (fun _ => ?_)
        | with_reducible refine ole_bnd (ole_rfl _) (fun _ => ?_)
        | with_reducible exact ole_rfl _
    | 1 =>
      show ole (b_PE_read_63 (fr_PE_read z_t_openers z_p0 z_p1_closings z_p1_pairs k) z_t_openers z_p0 z_p1_closings z_p1_pairs a0 a1 a2 a3 a4) (b_PE_read_63 (fr_PE_read z_t_openers z_p02 z_p1_closings z_p1_pairs k) z_t_openers z_p02 z_p1_closings z_p1_pairs a0 a1 a2 a3 a4)
      unfold b_PE_read_63
      repeat' first
        | with_reducible apply ih
        | with_reducible refine ole_bif ?_ ?_
        | with_reducible refine ole_fz (fun _ => ?_)
        | with_reducible refine ole_rd h (fun _ => ?_)
        | with_reducible refine ole_rd (sbO_rfl _) (fun _ => ?_)
        | with_reducible refine ole_bnd (ole_rfl _) (fun _ => ?_)
        | with_reducible exact ole_rfl _
    | _ + 2 => exact ole_nn _
theorem mono_PE_read {z_t_openers z_p0 z_p1_closings z_p1_pairs z_p02 : Nat} (h : sbO z_p0 z_p02) : ole (f_PE_read z_t_openers z_p0 z_p1_closings z_p1_pairs) (f_PE_read z_t_openers z_p02 z_p1_closings z_p1_pairs) := by
  have ih := mono_fr_PE_read (z_t_openers := z_t_openers) (z_p0 := z_p0) (z_p1_closings := z_p1_closings) (z_p1_pairs := z_p1_pairs) h 1000000
  unfold f_PE_read e_PE_read
  repeat' first
    | with_reducible apply ih
    | with_reducible refine ole_bif ?_ ?_
    | with_reducible refine ole_fz (fun _ => ?_)
    | with_reducible refine ole_rd h (fun _ => ?_)
    | with_reducible refine ole_rd (sbO_rfl _) (fun _ => ?_)
    | with_reducible refine ole_bnd (ole_rfl _) (fun _ => ?_)
    | with_reducible exact ole_rfl _
