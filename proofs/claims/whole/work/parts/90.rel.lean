/-! the triangulations' write does not look at what stood in lows and highs -/
def oleR {α β : Type} (R : α → β → Prop) (a : Option α) (b : Option β) : Prop := ∀ r, a = some r → ∃ r2, b = some r2 ∧ R r r2
theorem oleR_nn {α β : Type} {R : α → β → Prop} {b : Option β} : oleR R none b := fun _ h => no_s h
theorem oleR_some {α β : Type} {R : α → β → Prop} {r : α} {r2 : β} (h : R r r2) : oleR R (some r) (some r2) := fun x hx => by
  have := Option.some.inj hx
  subst this
  exact ⟨r2, rfl, h⟩
theorem oleR_bif {α β : Type} {R : α → β → Prop} {c : Bool} {X Y : Option α} {X2 Y2 : Option β} (h1 : oleR R X X2) (h2 : oleR R Y Y2) : oleR R (bif c then X else Y) (bif c then X2 else Y2) := by
  cases c
  · exact h2
  · exact h1
theorem oleR_bnd {α β γ δ : Type} {R : α → β → Prop} {S : γ → δ → Prop} {a : Option γ} {a2 : Option δ} {k : γ → Option α} {k2 : δ → Option β} (h : oleR S a a2) (h2 : ∀ r r2, S r r2 → oleR R (k r) (k2 r2)) : oleR R (Option.bind a k) (Option.bind a2 k2) := by
  intro r hr
  cases a with
  | none => exact no_s hr
  | some v =>
    obtain ⟨w, e, hs⟩ := h v rfl
    rw [e]
    exact h2 v w hs r hr
theorem oleR_eq {α β γ : Type} {R : α → β → Prop} {a a2 : Option γ} {k : γ → Option α} {k2 : γ → Option β} (h : ole a a2) (h2 : ∀ r, oleR R (k r) (k2 r)) : oleR R (Option.bind a k) (Option.bind a2 k2) := by
  intro r hr
  cases a with
  | none => exact no_s hr
  | some v =>
    rw [h v rfl]
    exact h2 v r hr
theorem oleR_rd {α β : Type} {R : α → β → Prop} {O O2 n i : Nat} {k : Nat → Option α} {k2 : Nat → Option β} (h : sbO O O2) (h2 : ∀ v, oleR R (k v) (k2 v)) : oleR R (rd O n i k) (rd O2 n i k2) := by
  intro r hr
  unfold rd at hr ⊢
  cases hb : Nat.blt i n with
  | false =>
    rw [hb] at hr
    exact no_s hr
  | true =>
    rw [hb] at hr
    cases ho : ag O i with
    | zero =>
      rw [ho] at hr
      exact no_s hr
    | succ v =>
      rw [ho] at hr
      rw [h i (by rw [ho]; exact Nat.succ_ne_zero v), ho]
      exact h2 v r hr
theorem sb_aw {O O2 : Nat} (h : sbO O O2) (i v : Nat) : sbO (aw O i v) (aw O2 i v) := fun j hj => by
  rw [ag_aw] at hj ⊢
  rw [ag_aw]
  by_cases hi : i = j
  · rw [if_pos hi, if_pos hi]
  · rw [if_neg hi] at hj ⊢
    rw [if_neg hi]
    exact h j hj
def R3 (r r2 : Nat × Nat × Nat) : Prop := sbO r.1 r2.1 ∧ sbO r.2.1 r2.2.1 ∧ r2.2.2 = r.2.2
theorem ole_comes {L L2 H H2 : Nat} (hL : sbO L L2) (hH : sbO H H2) (x y z : Nat) : ole (f_TR_comesAfter x y z L H) (f_TR_comesAfter x y z L2 H2) := by
  unfold f_TR_comesAfter
  repeat' first
    | with_reducible refine ole_bif ?_ ?_
    | with_reducible refine ole_rd hL (fun _ => ?_)
    | with_reducible refine ole_rd hH (fun _ => ?_)
    | with_reducible exact ole_rfl _
theorem rel_insert {x0 x1 a b c a2 b2 : Nat} : ∀ (k l1 l2 l3 D L H L2 H2 : Nat), sbO L L2 → sbO H H2 → oleR R3 (fr_TR_insert x0 x1 a b c k l1 l2 l3 L H D) (fr_TR_insert x0 x1 a2 b2 c k l1 l2 l3 L2 H2 D) := by
  intro k
  induction k with
  | zero => intros; exact oleR_nn
  | succ k ih =>
    intro l1 l2 l3 D L H L2 H2 hL hH
    rw [frs_TR_insert_5, frs_TR_insert_5]
    unfold b_TR_insert_5 j_TR_insert_55
    simp only [fz_eq]
    repeat' first
      | with_reducible exact oleR_nn
      | with_reducible refine oleR_bif ?_ ?_
      | with_reducible refine oleR_eq (ole_comes hL hH _ _ _) (fun _ => ?_)
      | with_reducible refine oleR_rd hL (fun _ => ?_)
      | with_reducible refine oleR_rd hH (fun _ => ?_)
      | with_reducible exact ih _ _ _ _ _ _ _ _ (sb_aw hL _ _) (sb_aw hH _ _)
      | exact oleR_some ⟨sb_aw hL _ _, sb_aw hH _ _, rfl⟩
theorem rel_ins {x0 x1 D L H L2 H2 : Nat} (hL : sbO L L2) (hH : sbO H H2) : oleR R3 (f_TR_insert x0 x1 L H D) (f_TR_insert x0 x1 L2 H2 D) := by
  unfold f_TR_insert e_TR_insert
  exact rel_insert 1000000 _ _ _ _ _ _ _ _ hL hH
theorem rel_draw {a b c B n a2 b2 : Nat} : ∀ (k l2 l3 D L H L2 H2 : Nat), sbO L L2 → sbO H H2 → oleR R3 (fr_TR_draw a b c B n k l2 l3 L H D) (fr_TR_draw a2 b2 c B n k l2 l3 L2 H2 D) := by
  intro k
  induction k with
  | zero => intros; exact oleR_nn
  | succ k ih =>
    intro l2 l3 D L H L2 H2 hL hH
    have last : ∀ l2 l3 (r r2 : Nat × Nat × Nat), R3 r r2 → oleR R3 (fr_TR_draw a b c B n k l2 l3 r.1 r.2.1 r.2.2) (fr_TR_draw a2 b2 c B n k l2 l3 r2.1 r2.2.1 r2.2.2) := fun l2 l3 r r2 hr => by
      obtain ⟨q1, q2, q3⟩ := hr
      rw [q3]
      exact ih _ _ _ _ _ _ _ q1 q2
    rw [frs_TR_draw_9, frs_TR_draw_9]
    unfold b_TR_draw_9 j_TR_draw_51
    simp only [fz_eq]
    repeat' first
      | with_reducible exact oleR_nn
      | with_reducible refine oleR_bif ?_ ?_
      | with_reducible refine oleR_bnd (rel_ins hL hH) (fun r r2 hr => last _ _ r r2 hr)
      | with_reducible refine oleR_eq (ole_rfl _) (fun _ => ?_)
      | with_reducible exact ih _ _ _ _ _ _ _ hL hH
      | exact oleR_some ⟨hL, hH, rfl⟩
def R4 (r r2 : Nat × Nat × Nat × Nat) : Prop := r2.2.2.2 = r.2.2.2
theorem rel_write {a b c B n p a2 b2 : Nat} : ∀ (k l3 D L H L2 H2 Q : Nat), sbO L L2 → sbO H H2 → oleR R4 (fr_TR_write a b c B n p k l3 L H D Q) (fr_TR_write a2 b2 c B n p k l3 L2 H2 D Q) := by
  intro k
  induction k with
  | zero => intros; exact oleR_nn
  | succ k ih =>
    intro l3 D L H L2 H2 Q hL hH
    rw [frs_TR_write_7, frs_TR_write_7]
    unfold b_TR_write_7
    simp only [fz_eq]
    repeat' first
      | with_reducible exact oleR_nn
      | with_reducible refine oleR_bif ?_ ?_
      | with_reducible refine oleR_rd hL (fun _ => ?_)
      | with_reducible refine oleR_rd hH (fun _ => ?_)
      | with_reducible exact ih _ _ _ _ _ _ _ hL hH
      | exact oleR_some rfl
theorem sb_zero (O : Nat) : sbO 0 O := fun i hi => absurd (ag_0 i) hi
theorem tr_any {n k L H z : Nat} (h : ∃ a, f_TR_write 0 0 0 (wB n k) n 0 = some a ∧ a.2.2.2 = nN 3 n k) : ∃ a, f_TR_write L H z (wB n k) n 0 = some a ∧ a.2.2.2 = nN 3 n k := by
  obtain ⟨a, e, ea⟩ := h
  rw [tr_zd]
  have g : oleR R4 (f_TR_write 0 0 0 (wB n k) n 0) (f_TR_write L H 0 (wB n k) n 0) := by
    unfold f_TR_write e_TR_write f_TR_draw e_TR_draw
    refine oleR_bnd (rel_draw 1000000 _ _ _ _ _ _ _ (sb_zero _) (sb_zero _)) (fun r r2 hr => ?_)
    obtain ⟨q1, q2, q3⟩ := hr
    simp only [fz_eq]
    rw [q3]
    exact rel_write 1000000 _ _ _ _ _ _ _ q1 q2
  obtain ⟨a2, e2, h2⟩ := g a e
  exact ⟨a2, e2, by rw [← ea]; exact h2⟩
