/-! the words' facts, word by word; the reference's rank -/
theorem ckW_all {n k : Nat} (h1 : 1 ≤ n) (h2 : n ≤ 9) (hk : k < cat n) : ckW n k = true := by
  rcases (by omega : n = 1 ∨ n = 2 ∨ n = 3 ∨ n = 4 ∨ n = 5 ∨ n = 6 ∨ n = 7 ∨ n = 8 ∨ n = 9) with rfl | rfl | rfl | rfl | rfl | rfl | rfl | rfl | rfl
  · exact uw1 k hk
  · exact uw2 k hk
  · exact uw3 k hk
  · exact uw4 k hk
  · exact uw5 k hk
  · exact uw6 k hk
  · exact uw7 k hk
  · exact uw8 k hk
  · exact uw9 k hk
theorem w_all {n k : Nat} (h1 : 1 ≤ n) (h2 : n ≤ 9) (hk : k < cat n) : f_RK_seek n k 0 0 0 = some (wB n k, wC n k, n) ∧ f_RK_of (wB n k) n = some k ∧ (k + 1 < cat n → f_MO_next n (wB n k) = some (1, wB n (k + 1))) ∧ (k + 1 = cat n → ∃ B, f_MO_next n (wB n k) = some (0, B)) := by
  have hc := ckW_all h1 h2 hk
  unfold ckW at hc
  cases hs : f_RK_seek n k 0 0 0 with
  | none => rw [hs] at hc; cases hc
  | some r =>
    rw [hs] at hc
    have eB : wB n k = r.1 := by
      unfold wB sk
      rw [hs]
      rfl
    have eC : wC n k = r.2.1 := by
      unfold wC sk
      rw [hs]
      rfl
    obtain ⟨c1, c2⟩ := bnd_t hc
    have c1 := Nat.eq_of_beq_eq_true c1
    obtain ⟨c2, c3⟩ := bnd_t c2
    refine ⟨by rw [eB, eC, ← c1], ?_, fun hlt => ?_, fun heq => ?_⟩
    · rw [eB]
      cases ho : f_RK_of r.1 n with
      | none => rw [ho] at c2; cases c2
      | some v =>
        rw [ho] at c2
        rw [Nat.eq_of_beq_eq_true c2]
    · rw [eB]
      cases hn : f_MO_next n r.1 with
      | none => rw [hn] at c3; cases c3
      | some q =>
        rw [hn] at c3
        have hne : Nat.beq (Nat.succ k) (cat n) = false := by
          cases hb : Nat.beq (Nat.succ k) (cat n) with
          | false => rfl
          | true =>
            have := Nat.eq_of_beq_eq_true hb
            omega
        have c4 : Bool.rec (motive := fun _ => Bool) (bnd (Nat.beq q.1 1) (Option.rec (motive := fun _ => Bool) false (fun r2 => Nat.beq q.2 r2.1) (f_RK_seek n (Nat.succ k) 0 0 0))) (Nat.beq q.1 0) (Nat.beq (Nat.succ k) (cat n)) = true := c3
        rw [hne] at c4
        obtain ⟨c5, c6⟩ := bnd_t c4
        have c5 := Nat.eq_of_beq_eq_true c5
        have e2 : q.2 = wB n (k + 1) := by
          unfold wB sk
          cases h2 : f_RK_seek n (k + 1) 0 0 0 with
          | none =>
            have c7 : Option.rec (motive := fun _ => Bool) false (fun r2 => Nat.beq q.2 r2.1) (f_RK_seek n (k + 1) 0 0 0) = true := c6
            rw [h2] at c7
            cases c7
          | some r2 =>
            have c7 : Option.rec (motive := fun _ => Bool) false (fun r2 => Nat.beq q.2 r2.1) (f_RK_seek n (k + 1) 0 0 0) = true := c6
            rw [h2] at c7
            exact Nat.eq_of_beq_eq_true c7
        rw [← e2, ← c5]
    · rw [eB]
      cases hn : f_MO_next n r.1 with
      | none => rw [hn] at c3; cases c3
      | some q =>
        rw [hn] at c3
        have c4 : Bool.rec (motive := fun _ => Bool) (bnd (Nat.beq q.1 1) (Option.rec (motive := fun _ => Bool) false (fun r2 => Nat.beq q.2 r2.1) (f_RK_seek n (Nat.succ k) 0 0 0))) (Nat.beq q.1 0) (Nat.beq (Nat.succ k) (cat n)) = true := c3
        have he : Nat.beq (Nat.succ k) (cat n) = true := by
          rw [show Nat.succ k = cat n from heq]
          exact Nat.beq_refl _
        rw [he] at c4
        have c5 := Nat.eq_of_beq_eq_true c4
        exact ⟨q.2, by rw [← c5]⟩
theorem frp_RK_seek (n k b c p m : Nat) : fr_RK_seek n k b c p m = fr_RK_seek n k b c 0 m := rfl
theorem seek_p (n k b c p : Nat) : f_RK_seek n k b c p = f_RK_seek n k b c 0 := by
  unfold f_RK_seek
  rw [frp_RK_seek]
  generalize fr_RK_seek n k b c 0 1000000 = ih
  rfl
theorem wd_cat {n : Nat} (h1 : 1 ≤ n) (h2 : n ≤ 9) : f_RK_words n = some (cat n) := by
  rcases (by omega : n = 1 ∨ n = 2 ∨ n = 3 ∨ n = 4 ∨ n = 5 ∨ n = 6 ∨ n = 7 ∨ n = 8 ∨ n = 9) with rfl | rfl | rfl | rfl | rfl | rfl | rfl | rfl | rfl <;> decide +kernel
theorem cat_le {n : Nat} (h1 : 1 ≤ n) (h2 : n ≤ 9) : 0 < cat n ∧ cat n ≤ 4862 := by
  rcases (by omega : n = 1 ∨ n = 2 ∨ n = 3 ∨ n = 4 ∨ n = 5 ∨ n = 6 ∨ n = 7 ∨ n = 8 ∨ n = 9) with rfl | rfl | rfl | rfl | rfl | rfl | rfl | rfl | rfl <;> decide
theorem cw_rank {n k : Nat} (h1 : 1 ≤ n) (h2 : n ≤ 9) (hk : k < cat n) : f_CW_rank (wB n k) n = some k := by
  unfold f_CW_rank
  rw [(w_all h1 h2 hk).2.1]
  rfl
theorem cw_isRank {n x : Nat} (h1 : 1 ≤ n) (h2 : n ≤ 9) (hx : x < 4294967296) : f_CW_isRank x n = some (if x < cat n then 1 else 0) := by
  have hc := cat_le h1 h2
  unfold f_CW_isRank
  by_cases hb : x < 2147483648
  · rw [iLt_f hb (by omega) (by omega)]
    show Option.bind (some n) _ = _
    show Option.bind (f_RK_words n) _ = _
    rw [wd_cat h1 h2]
    show (bif iLt x (cat n) then some 1 else some 0) = _
    by_cases hc2 : x < cat n
    · rw [iLt_t hb (by omega) hc2, if_pos hc2]
    · rw [iLt_f hb (by omega) (by omega), if_neg hc2]
  · rw [iLt_big (by omega) hx 0 (by omega), if_neg (by omega)]
theorem cw_unrank {n x : Nat} (h1 : 1 ≤ n) (h2 : n ≤ 9) (hx : x < cat n) : f_CW_unrank x 0 0 n = some (wB n x, wC n x, n) := by
  have hc := cat_le h1 h2
  unfold f_CW_unrank
  rw [cw_isRank h1 h2 (by omega), if_pos hx]
  show (bif iEq 1 0 then none else _) = _
  rw [iEq_f (by omega) (by omega) (by omega)]
  show Option.bind (f_RK_seek n x 0 0 n) _ = _
  rw [seek_p, (w_all h1 h2 hx).1]
  rfl
theorem cw_unrankX {n x : Nat} (h1 : 1 ≤ n) (h2 : n ≤ 9) (hx : x < 4294967296) (hc : cat n ≤ x) : f_CW_unrankX x n = some 0 := by
  unfold f_CW_unrankX
  rw [cw_isRank h1 h2 hx, if_neg (by omega)]
  show (bif iEq 0 0 then some 0 else none) = _
  rw [iEq_t]
theorem cw_size {n x : Nat} (h1 : 1 ≤ x) (h2 : x ≤ 9) : f_CW_size x 0 0 n = some (cat x, wB x 0, wC x 0, x) := by
  unfold f_CW_size
  rw [iLt_f (by omega) (by omega) (by omega), iLt_f (by omega) (by omega) (by omega), seek_p, (w_all h1 h2 (cat_le h1 h2).1).1]
  show Option.bind (f_RK_words x) _ = _
  rw [wd_cat h1 h2]
  rfl
theorem cw_sizeX {x : Nat} (hx : x < 4294967296) (h : ¬ (1 ≤ x ∧ x ≤ 9)) : f_CW_sizeX x = some 0 := by
  unfold f_CW_sizeX j_CW_sizeX_11
  by_cases hb : x < 2147483648
  · by_cases h1 : x < 1
    · rw [iLt_t hb (by omega) h1]
    · rw [iLt_f hb (by omega) (by omega), iLt_t (by omega) hb (by omega)]
  · rw [iLt_big (by omega) hx 1 (by omega)]
