/-! all rows of closings -/
theorem alB_of {P : Nat → Bool} {m : Nat} (h : ∀ v, v < m → P v = true) : alB P 0 m = true := by
  induction m with
  | zero => rfl
  | succ m ih =>
    show bnd (P (Nat.add 0 m)) (alB P 0 m) = true
    rw [show Nat.add 0 m = m from Nat.zero_add m, h m (Nat.lt_succ_self m), ih (fun v hv => h v (by omega))]
    rfl
theorem wk_c {n d i s O : Nat} (h : ∀ v, v ≤ i - s → wk n d (i + 1) (s + v) (aw O i v) = true) : wk n (d + 1) i s O = true := by
  rw [wk_s]
  refine alB_of (fun v hv => ?_)
  rw [fz_eq, fz_eq]
  exact h v (Nat.lt_succ_iff.mp hv)
theorem wk1 : wk 1 1 1 0 c0 = true := by decide +kernel
theorem wk2 : wk 2 2 1 0 c0 = true := by decide +kernel
theorem wk3 : wk 3 3 1 0 c0 = true := by decide +kernel
theorem wk4 : wk 4 4 1 0 c0 = true := by decide +kernel
theorem wk5 : wk 5 5 1 0 c0 = true := by decide +kernel
theorem wk6_0_0_0_0 : wk 6 2 5 0 (aw (aw (aw (aw c0 1 0) 2 0) 3 0) 4 0) = true := by decide +kernel
theorem wk6_0_0_0_1 : wk 6 2 5 1 (aw (aw (aw (aw c0 1 0) 2 0) 3 0) 4 1) = true := by decide +kernel
theorem wk6_0_0_0_2 : wk 6 2 5 2 (aw (aw (aw (aw c0 1 0) 2 0) 3 0) 4 2) = true := by decide +kernel
theorem wk6_0_0_0_3 : wk 6 2 5 3 (aw (aw (aw (aw c0 1 0) 2 0) 3 0) 4 3) = true := by decide +kernel
theorem wk6_0_0_0_4 : wk 6 2 5 4 (aw (aw (aw (aw c0 1 0) 2 0) 3 0) 4 4) = true := by decide +kernel
theorem wk6_0_0_0 : wk 6 3 4 0 (aw (aw (aw c0 1 0) 2 0) 3 0) = true := wk_c (fun v hv => by
  rcases (by omega : v = 0 ∨ v = 1 ∨ v = 2 ∨ v = 3 ∨ v = 4) with rfl | rfl | rfl | rfl | rfl
  · exact wk6_0_0_0_0
  · exact wk6_0_0_0_1
  · exact wk6_0_0_0_2
  · exact wk6_0_0_0_3
  · exact wk6_0_0_0_4)
theorem wk6_0_0_1_0 : wk 6 2 5 1 (aw (aw (aw (aw c0 1 0) 2 0) 3 1) 4 0) = true := by decide +kernel
theorem wk6_0_0_1_1 : wk 6 2 5 2 (aw (aw (aw (aw c0 1 0) 2 0) 3 1) 4 1) = true := by decide +kernel
theorem wk6_0_0_1_2 : wk 6 2 5 3 (aw (aw (aw (aw c0 1 0) 2 0) 3 1) 4 2) = true := by decide +kernel
theorem wk6_0_0_1_3 : wk 6 2 5 4 (aw (aw (aw (aw c0 1 0) 2 0) 3 1) 4 3) = true := by decide +kernel
theorem wk6_0_0_1 : wk 6 3 4 1 (aw (aw (aw c0 1 0) 2 0) 3 1) = true := wk_c (fun v hv => by
  rcases (by omega : v = 0 ∨ v = 1 ∨ v = 2 ∨ v = 3) with rfl | rfl | rfl | rfl
  · exact wk6_0_0_1_0
  · exact wk6_0_0_1_1
  · exact wk6_0_0_1_2
  · exact wk6_0_0_1_3)
theorem wk6_0_0_2_0 : wk 6 2 5 2 (aw (aw (aw (aw c0 1 0) 2 0) 3 2) 4 0) = true := by decide +kernel
theorem wk6_0_0_2_1 : wk 6 2 5 3 (aw (aw (aw (aw c0 1 0) 2 0) 3 2) 4 1) = true := by decide +kernel
theorem wk6_0_0_2_2 : wk 6 2 5 4 (aw (aw (aw (aw c0 1 0) 2 0) 3 2) 4 2) = true := by decide +kernel
theorem wk6_0_0_2 : wk 6 3 4 2 (aw (aw (aw c0 1 0) 2 0) 3 2) = true := wk_c (fun v hv => by
  rcases (by omega : v = 0 ∨ v = 1 ∨ v = 2) with rfl | rfl | rfl
  · exact wk6_0_0_2_0
  · exact wk6_0_0_2_1
  · exact wk6_0_0_2_2)
theorem wk6_0_0_3_0 : wk 6 2 5 3 (aw (aw (aw (aw c0 1 0) 2 0) 3 3) 4 0) = true := by decide +kernel
theorem wk6_0_0_3_1 : wk 6 2 5 4 (aw (aw (aw (aw c0 1 0) 2 0) 3 3) 4 1) = true := by decide +kernel
theorem wk6_0_0_3 : wk 6 3 4 3 (aw (aw (aw c0 1 0) 2 0) 3 3) = true := wk_c (fun v hv => by
  rcases (by omega : v = 0 ∨ v = 1) with rfl | rfl
  · exact wk6_0_0_3_0
  · exact wk6_0_0_3_1)
theorem wk6_0_0 : wk 6 4 3 0 (aw (aw c0 1 0) 2 0) = true := wk_c (fun v hv => by
  rcases (by omega : v = 0 ∨ v = 1 ∨ v = 2 ∨ v = 3) with rfl | rfl | rfl | rfl
  · exact wk6_0_0_0
  · exact wk6_0_0_1
  · exact wk6_0_0_2
  · exact wk6_0_0_3)
theorem wk6_0_1_0_0 : wk 6 2 5 1 (aw (aw (aw (aw c0 1 0) 2 1) 3 0) 4 0) = true := by decide +kernel
theorem wk6_0_1_0_1 : wk 6 2 5 2 (aw (aw (aw (aw c0 1 0) 2 1) 3 0) 4 1) = true := by decide +kernel
theorem wk6_0_1_0_2 : wk 6 2 5 3 (aw (aw (aw (aw c0 1 0) 2 1) 3 0) 4 2) = true := by decide +kernel
theorem wk6_0_1_0_3 : wk 6 2 5 4 (aw (aw (aw (aw c0 1 0) 2 1) 3 0) 4 3) = true := by decide +kernel
theorem wk6_0_1_0 : wk 6 3 4 1 (aw (aw (aw c0 1 0) 2 1) 3 0) = true := wk_c (fun v hv => by
  rcases (by omega : v = 0 ∨ v = 1 ∨ v = 2 ∨ v = 3) with rfl | rfl | rfl | rfl
  · exact wk6_0_1_0_0
  · exact wk6_0_1_0_1
  · exact wk6_0_1_0_2
  · exact wk6_0_1_0_3)
theorem wk6_0_1_1_0 : wk 6 2 5 2 (aw (aw (aw (aw c0 1 0) 2 1) 3 1) 4 0) = true := by decide +kernel
theorem wk6_0_1_1_1 : wk 6 2 5 3 (aw (aw (aw (aw c0 1 0) 2 1) 3 1) 4 1) = true := by decide +kernel
theorem wk6_0_1_1_2 : wk 6 2 5 4 (aw (aw (aw (aw c0 1 0) 2 1) 3 1) 4 2) = true := by decide +kernel
theorem wk6_0_1_1 : wk 6 3 4 2 (aw (aw (aw c0 1 0) 2 1) 3 1) = true := wk_c (fun v hv => by
  rcases (by omega : v = 0 ∨ v = 1 ∨ v = 2) with rfl | rfl | rfl
  · exact wk6_0_1_1_0
  · exact wk6_0_1_1_1
  · exact wk6_0_1_1_2)
theorem wk6_0_1_2_0 : wk 6 2 5 3 (aw (aw (aw (aw c0 1 0) 2 1) 3 2) 4 0) = true := by decide +kernel
theorem wk6_0_1_2_1 : wk 6 2 5 4 (aw (aw (aw (aw c0 1 0) 2 1) 3 2) 4 1) = true := by decide +kernel
theorem wk6_0_1_2 : wk 6 3 4 3 (aw (aw (aw c0 1 0) 2 1) 3 2) = true := wk_c (fun v hv => by
  rcases (by omega : v = 0 ∨ v = 1) with rfl | rfl
  · exact wk6_0_1_2_0
  · exact wk6_0_1_2_1)
theorem wk6_0_1 : wk 6 4 3 1 (aw (aw c0 1 0) 2 1) = true := wk_c (fun v hv => by
  rcases (by omega : v = 0 ∨ v = 1 ∨ v = 2) with rfl | rfl | rfl
  · exact wk6_0_1_0
  · exact wk6_0_1_1
  · exact wk6_0_1_2)
theorem wk6_0_2_0_0 : wk 6 2 5 2 (aw (aw (aw (aw c0 1 0) 2 2) 3 0) 4 0) = true := by decide +kernel
theorem wk6_0_2_0_1 : wk 6 2 5 3 (aw (aw (aw (aw c0 1 0) 2 2) 3 0) 4 1) = true := by decide +kernel
theorem wk6_0_2_0_2 : wk 6 2 5 4 (aw (aw (aw (aw c0 1 0) 2 2) 3 0) 4 2) = true := by decide +kernel
theorem wk6_0_2_0 : wk 6 3 4 2 (aw (aw (aw c0 1 0) 2 2) 3 0) = true := wk_c (fun v hv => by
  rcases (by omega : v = 0 ∨ v = 1 ∨ v = 2) with rfl | rfl | rfl
  · exact wk6_0_2_0_0
  · exact wk6_0_2_0_1
  · exact wk6_0_2_0_2)
theorem wk6_0_2_1_0 : wk 6 2 5 3 (aw (aw (aw (aw c0 1 0) 2 2) 3 1) 4 0) = true := by decide +kernel
theorem wk6_0_2_1_1 : wk 6 2 5 4 (aw (aw (aw (aw c0 1 0) 2 2) 3 1) 4 1) = true := by decide +kernel
theorem wk6_0_2_1 : wk 6 3 4 3 (aw (aw (aw c0 1 0) 2 2) 3 1) = true := wk_c (fun v hv => by
  rcases (by omega : v = 0 ∨ v = 1) with rfl | rfl
  · exact wk6_0_2_1_0
  · exact wk6_0_2_1_1)
theorem wk6_0_2 : wk 6 4 3 2 (aw (aw c0 1 0) 2 2) = true := wk_c (fun v hv => by
  rcases (by omega : v = 0 ∨ v = 1) with rfl | rfl
  · exact wk6_0_2_0
  · exact wk6_0_2_1)
theorem wk6_0 : wk 6 5 2 0 (aw c0 1 0) = true := wk_c (fun v hv => by
  rcases (by omega : v = 0 ∨ v = 1 ∨ v = 2) with rfl | rfl | rfl
  · exact wk6_0_0
  · exact wk6_0_1
  · exact wk6_0_2)
theorem wk6_1_0_0_0 : wk 6 2 5 1 (aw (aw (aw (aw c0 1 1) 2 0) 3 0) 4 0) = true := by decide +kernel
theorem wk6_1_0_0_1 : wk 6 2 5 2 (aw (aw (aw (aw c0 1 1) 2 0) 3 0) 4 1) = true := by decide +kernel
theorem wk6_1_0_0_2 : wk 6 2 5 3 (aw (aw (aw (aw c0 1 1) 2 0) 3 0) 4 2) = true := by decide +kernel
theorem wk6_1_0_0_3 : wk 6 2 5 4 (aw (aw (aw (aw c0 1 1) 2 0) 3 0) 4 3) = true := by decide +kernel
theorem wk6_1_0_0 : wk 6 3 4 1 (aw (aw (aw c0 1 1) 2 0) 3 0) = true := wk_c (fun v hv => by
  rcases (by omega : v = 0 ∨ v = 1 ∨ v = 2 ∨ v = 3) with rfl | rfl | rfl | rfl
  · exact wk6_1_0_0_0
  · exact wk6_1_0_0_1
  · exact wk6_1_0_0_2
  · exact wk6_1_0_0_3)
theorem wk6_1_0_1_0 : wk 6 2 5 2 (aw (aw (aw (aw c0 1 1) 2 0) 3 1) 4 0) = true := by decide +kernel
theorem wk6_1_0_1_1 : wk 6 2 5 3 (aw (aw (aw (aw c0 1 1) 2 0) 3 1) 4 1) = true := by decide +kernel
theorem wk6_1_0_1_2 : wk 6 2 5 4 (aw (aw (aw (aw c0 1 1) 2 0) 3 1) 4 2) = true := by decide +kernel
theorem wk6_1_0_1 : wk 6 3 4 2 (aw (aw (aw c0 1 1) 2 0) 3 1) = true := wk_c (fun v hv => by
  rcases (by omega : v = 0 ∨ v = 1 ∨ v = 2) with rfl | rfl | rfl
  · exact wk6_1_0_1_0
  · exact wk6_1_0_1_1
  · exact wk6_1_0_1_2)
theorem wk6_1_0_2_0 : wk 6 2 5 3 (aw (aw (aw (aw c0 1 1) 2 0) 3 2) 4 0) = true := by decide +kernel
theorem wk6_1_0_2_1 : wk 6 2 5 4 (aw (aw (aw (aw c0 1 1) 2 0) 3 2) 4 1) = true := by decide +kernel
theorem wk6_1_0_2 : wk 6 3 4 3 (aw (aw (aw c0 1 1) 2 0) 3 2) = true := wk_c (fun v hv => by
  rcases (by omega : v = 0 ∨ v = 1) with rfl | rfl
  · exact wk6_1_0_2_0
  · exact wk6_1_0_2_1)
theorem wk6_1_0 : wk 6 4 3 1 (aw (aw c0 1 1) 2 0) = true := wk_c (fun v hv => by
  rcases (by omega : v = 0 ∨ v = 1 ∨ v = 2) with rfl | rfl | rfl
  · exact wk6_1_0_0
  · exact wk6_1_0_1
  · exact wk6_1_0_2)
theorem wk6_1_1_0_0 : wk 6 2 5 2 (aw (aw (aw (aw c0 1 1) 2 1) 3 0) 4 0) = true := by decide +kernel
theorem wk6_1_1_0_1 : wk 6 2 5 3 (aw (aw (aw (aw c0 1 1) 2 1) 3 0) 4 1) = true := by decide +kernel
theorem wk6_1_1_0_2 : wk 6 2 5 4 (aw (aw (aw (aw c0 1 1) 2 1) 3 0) 4 2) = true := by decide +kernel
theorem wk6_1_1_0 : wk 6 3 4 2 (aw (aw (aw c0 1 1) 2 1) 3 0) = true := wk_c (fun v hv => by
  rcases (by omega : v = 0 ∨ v = 1 ∨ v = 2) with rfl | rfl | rfl
  · exact wk6_1_1_0_0
  · exact wk6_1_1_0_1
  · exact wk6_1_1_0_2)
theorem wk6_1_1_1_0 : wk 6 2 5 3 (aw (aw (aw (aw c0 1 1) 2 1) 3 1) 4 0) = true := by decide +kernel
theorem wk6_1_1_1_1 : wk 6 2 5 4 (aw (aw (aw (aw c0 1 1) 2 1) 3 1) 4 1) = true := by decide +kernel
theorem wk6_1_1_1 : wk 6 3 4 3 (aw (aw (aw c0 1 1) 2 1) 3 1) = true := wk_c (fun v hv => by
  rcases (by omega : v = 0 ∨ v = 1) with rfl | rfl
  · exact wk6_1_1_1_0
  · exact wk6_1_1_1_1)
theorem wk6_1_1 : wk 6 4 3 2 (aw (aw c0 1 1) 2 1) = true := wk_c (fun v hv => by
  rcases (by omega : v = 0 ∨ v = 1) with rfl | rfl
  · exact wk6_1_1_0
  · exact wk6_1_1_1)
theorem wk6_1 : wk 6 5 2 1 (aw c0 1 1) = true := wk_c (fun v hv => by
  rcases (by omega : v = 0 ∨ v = 1) with rfl | rfl
  · exact wk6_1_0
  · exact wk6_1_1)
theorem wk6 : wk 6 6 1 0 (c0) = true := wk_c (fun v hv => by
  rcases (by omega : v = 0 ∨ v = 1) with rfl | rfl
  · exact wk6_0
  · exact wk6_1)
theorem wk7_0_0_0_0_0 : wk 7 2 6 0 (aw (aw (aw (aw (aw c0 1 0) 2 0) 3 0) 4 0) 5 0) = true := by decide +kernel
theorem wk7_0_0_0_0_1 : wk 7 2 6 1 (aw (aw (aw (aw (aw c0 1 0) 2 0) 3 0) 4 0) 5 1) = true := by decide +kernel
theorem wk7_0_0_0_0_2 : wk 7 2 6 2 (aw (aw (aw (aw (aw c0 1 0) 2 0) 3 0) 4 0) 5 2) = true := by decide +kernel
theorem wk7_0_0_0_0_3 : wk 7 2 6 3 (aw (aw (aw (aw (aw c0 1 0) 2 0) 3 0) 4 0) 5 3) = true := by decide +kernel
theorem wk7_0_0_0_0_4 : wk 7 2 6 4 (aw (aw (aw (aw (aw c0 1 0) 2 0) 3 0) 4 0) 5 4) = true := by decide +kernel
theorem wk7_0_0_0_0_5 : wk 7 2 6 5 (aw (aw (aw (aw (aw c0 1 0) 2 0) 3 0) 4 0) 5 5) = true := by decide +kernel
theorem wk7_0_0_0_0 : wk 7 3 5 0 (aw (aw (aw (aw c0 1 0) 2 0) 3 0) 4 0) = true := wk_c (fun v hv => by
  rcases (by omega : v = 0 ∨ v = 1 ∨ v = 2 ∨ v = 3 ∨ v = 4 ∨ v = 5) with rfl | rfl | rfl | rfl | rfl | rfl
  · exact wk7_0_0_0_0_0
  · exact wk7_0_0_0_0_1
  · exact wk7_0_0_0_0_2
  · exact wk7_0_0_0_0_3
  · exact wk7_0_0_0_0_4
  · exact wk7_0_0_0_0_5)
theorem wk7_0_0_0_1_0 : wk 7 2 6 1 (aw (aw (aw (aw (aw c0 1 0) 2 0) 3 0) 4 1) 5 0) = true := by decide +kernel
theorem wk7_0_0_0_1_1 : wk 7 2 6 2 (aw (aw (aw (aw (aw c0 1 0) 2 0) 3 0) 4 1) 5 1) = true := by decide +kernel
theorem wk7_0_0_0_1_2 : wk 7 2 6 3 (aw (aw (aw (aw (aw c0 1 0) 2 0) 3 0) 4 1) 5 2) = true := by decide +kernel
theorem wk7_0_0_0_1_3 : wk 7 2 6 4 (aw (aw (aw (aw (aw c0 1 0) 2 0) 3 0) 4 1) 5 3) = true := by decide +kernel
theorem wk7_0_0_0_1_4 : wk 7 2 6 5 (aw (aw (aw (aw (aw c0 1 0) 2 0) 3 0) 4 1) 5 4) = true := by decide +kernel
theorem wk7_0_0_0_1 : wk 7 3 5 1 (aw (aw (aw (aw c0 1 0) 2 0) 3 0) 4 1) = true := wk_c (fun v hv => by
  rcases (by omega : v = 0 ∨ v = 1 ∨ v = 2 ∨ v = 3 ∨ v = 4) with rfl | rfl | rfl | rfl | rfl
  · exact wk7_0_0_0_1_0
  · exact wk7_0_0_0_1_1
  · exact wk7_0_0_0_1_2
  · exact wk7_0_0_0_1_3
  · exact wk7_0_0_0_1_4)
theorem wk7_0_0_0_2_0 : wk 7 2 6 2 (aw (aw (aw (aw (aw c0 1 0) 2 0) 3 0) 4 2) 5 0) = true := by decide +kernel
theorem wk7_0_0_0_2_1 : wk 7 2 6 3 (aw (aw (aw (aw (aw c0 1 0) 2 0) 3 0) 4 2) 5 1) = true := by decide +kernel
theorem wk7_0_0_0_2_2 : wk 7 2 6 4 (aw (aw (aw (aw (aw c0 1 0) 2 0) 3 0) 4 2) 5 2) = true := by decide +kernel
theorem wk7_0_0_0_2_3 : wk 7 2 6 5 (aw (aw (aw (aw (aw c0 1 0) 2 0) 3 0) 4 2) 5 3) = true := by decide +kernel
theorem wk7_0_0_0_2 : wk 7 3 5 2 (aw (aw (aw (aw c0 1 0) 2 0) 3 0) 4 2) = true := wk_c (fun v hv => by
  rcases (by omega : v = 0 ∨ v = 1 ∨ v = 2 ∨ v = 3) with rfl | rfl | rfl | rfl
  · exact wk7_0_0_0_2_0
  · exact wk7_0_0_0_2_1
  · exact wk7_0_0_0_2_2
  · exact wk7_0_0_0_2_3)
theorem wk7_0_0_0_3_0 : wk 7 2 6 3 (aw (aw (aw (aw (aw c0 1 0) 2 0) 3 0) 4 3) 5 0) = true := by decide +kernel
theorem wk7_0_0_0_3_1 : wk 7 2 6 4 (aw (aw (aw (aw (aw c0 1 0) 2 0) 3 0) 4 3) 5 1) = true := by decide +kernel
theorem wk7_0_0_0_3_2 : wk 7 2 6 5 (aw (aw (aw (aw (aw c0 1 0) 2 0) 3 0) 4 3) 5 2) = true := by decide +kernel
theorem wk7_0_0_0_3 : wk 7 3 5 3 (aw (aw (aw (aw c0 1 0) 2 0) 3 0) 4 3) = true := wk_c (fun v hv => by
  rcases (by omega : v = 0 ∨ v = 1 ∨ v = 2) with rfl | rfl | rfl
  · exact wk7_0_0_0_3_0
  · exact wk7_0_0_0_3_1
  · exact wk7_0_0_0_3_2)
theorem wk7_0_0_0_4_0 : wk 7 2 6 4 (aw (aw (aw (aw (aw c0 1 0) 2 0) 3 0) 4 4) 5 0) = true := by decide +kernel
theorem wk7_0_0_0_4_1 : wk 7 2 6 5 (aw (aw (aw (aw (aw c0 1 0) 2 0) 3 0) 4 4) 5 1) = true := by decide +kernel
theorem wk7_0_0_0_4 : wk 7 3 5 4 (aw (aw (aw (aw c0 1 0) 2 0) 3 0) 4 4) = true := wk_c (fun v hv => by
  rcases (by omega : v = 0 ∨ v = 1) with rfl | rfl
  · exact wk7_0_0_0_4_0
  · exact wk7_0_0_0_4_1)
theorem wk7_0_0_0 : wk 7 4 4 0 (aw (aw (aw c0 1 0) 2 0) 3 0) = true := wk_c (fun v hv => by
  rcases (by omega : v = 0 ∨ v = 1 ∨ v = 2 ∨ v = 3 ∨ v = 4) with rfl | rfl | rfl | rfl | rfl
  · exact wk7_0_0_0_0
  · exact wk7_0_0_0_1
  · exact wk7_0_0_0_2
  · exact wk7_0_0_0_3
  · exact wk7_0_0_0_4)
theorem wk7_0_0_1_0_0 : wk 7 2 6 1 (aw (aw (aw (aw (aw c0 1 0) 2 0) 3 1) 4 0) 5 0) = true := by decide +kernel
theorem wk7_0_0_1_0_1 : wk 7 2 6 2 (aw (aw (aw (aw (aw c0 1 0) 2 0) 3 1) 4 0) 5 1) = true := by decide +kernel
theorem wk7_0_0_1_0_2 : wk 7 2 6 3 (aw (aw (aw (aw (aw c0 1 0) 2 0) 3 1) 4 0) 5 2) = true := by decide +kernel
theorem wk7_0_0_1_0_3 : wk 7 2 6 4 (aw (aw (aw (aw (aw c0 1 0) 2 0) 3 1) 4 0) 5 3) = true := by decide +kernel
theorem wk7_0_0_1_0_4 : wk 7 2 6 5 (aw (aw (aw (aw (aw c0 1 0) 2 0) 3 1) 4 0) 5 4) = true := by decide +kernel
theorem wk7_0_0_1_0 : wk 7 3 5 1 (aw (aw (aw (aw c0 1 0) 2 0) 3 1) 4 0) = true := wk_c (fun v hv => by
  rcases (by omega : v = 0 ∨ v = 1 ∨ v = 2 ∨ v = 3 ∨ v = 4) with rfl | rfl | rfl | rfl | rfl
  · exact wk7_0_0_1_0_0
  · exact wk7_0_0_1_0_1
  · exact wk7_0_0_1_0_2
  · exact wk7_0_0_1_0_3
  · exact wk7_0_0_1_0_4)
theorem wk7_0_0_1_1_0 : wk 7 2 6 2 (aw (aw (aw (aw (aw c0 1 0) 2 0) 3 1) 4 1) 5 0) = true := by decide +kernel
theorem wk7_0_0_1_1_1 : wk 7 2 6 3 (aw (aw (aw (aw (aw c0 1 0) 2 0) 3 1) 4 1) 5 1) = true := by decide +kernel
theorem wk7_0_0_1_1_2 : wk 7 2 6 4 (aw (aw (aw (aw (aw c0 1 0) 2 0) 3 1) 4 1) 5 2) = true := by decide +kernel
theorem wk7_0_0_1_1_3 : wk 7 2 6 5 (aw (aw (aw (aw (aw c0 1 0) 2 0) 3 1) 4 1) 5 3) = true := by decide +kernel
theorem wk7_0_0_1_1 : wk 7 3 5 2 (aw (aw (aw (aw c0 1 0) 2 0) 3 1) 4 1) = true := wk_c (fun v hv => by
  rcases (by omega : v = 0 ∨ v = 1 ∨ v = 2 ∨ v = 3) with rfl | rfl | rfl | rfl
  · exact wk7_0_0_1_1_0
  · exact wk7_0_0_1_1_1
  · exact wk7_0_0_1_1_2
  · exact wk7_0_0_1_1_3)
theorem wk7_0_0_1_2_0 : wk 7 2 6 3 (aw (aw (aw (aw (aw c0 1 0) 2 0) 3 1) 4 2) 5 0) = true := by decide +kernel
theorem wk7_0_0_1_2_1 : wk 7 2 6 4 (aw (aw (aw (aw (aw c0 1 0) 2 0) 3 1) 4 2) 5 1) = true := by decide +kernel
theorem wk7_0_0_1_2_2 : wk 7 2 6 5 (aw (aw (aw (aw (aw c0 1 0) 2 0) 3 1) 4 2) 5 2) = true := by decide +kernel
theorem wk7_0_0_1_2 : wk 7 3 5 3 (aw (aw (aw (aw c0 1 0) 2 0) 3 1) 4 2) = true := wk_c (fun v hv => by
  rcases (by omega : v = 0 ∨ v = 1 ∨ v = 2) with rfl | rfl | rfl
  · exact wk7_0_0_1_2_0
  · exact wk7_0_0_1_2_1
  · exact wk7_0_0_1_2_2)
theorem wk7_0_0_1_3_0 : wk 7 2 6 4 (aw (aw (aw (aw (aw c0 1 0) 2 0) 3 1) 4 3) 5 0) = true := by decide +kernel
theorem wk7_0_0_1_3_1 : wk 7 2 6 5 (aw (aw (aw (aw (aw c0 1 0) 2 0) 3 1) 4 3) 5 1) = true := by decide +kernel
theorem wk7_0_0_1_3 : wk 7 3 5 4 (aw (aw (aw (aw c0 1 0) 2 0) 3 1) 4 3) = true := wk_c (fun v hv => by
  rcases (by omega : v = 0 ∨ v = 1) with rfl | rfl
  · exact wk7_0_0_1_3_0
  · exact wk7_0_0_1_3_1)
theorem wk7_0_0_1 : wk 7 4 4 1 (aw (aw (aw c0 1 0) 2 0) 3 1) = true := wk_c (fun v hv => by
  rcases (by omega : v = 0 ∨ v = 1 ∨ v = 2 ∨ v = 3) with rfl | rfl | rfl | rfl
  · exact wk7_0_0_1_0
  · exact wk7_0_0_1_1
  · exact wk7_0_0_1_2
  · exact wk7_0_0_1_3)
theorem wk7_0_0_2_0_0 : wk 7 2 6 2 (aw (aw (aw (aw (aw c0 1 0) 2 0) 3 2) 4 0) 5 0) = true := by decide +kernel
theorem wk7_0_0_2_0_1 : wk 7 2 6 3 (aw (aw (aw (aw (aw c0 1 0) 2 0) 3 2) 4 0) 5 1) = true := by decide +kernel
theorem wk7_0_0_2_0_2 : wk 7 2 6 4 (aw (aw (aw (aw (aw c0 1 0) 2 0) 3 2) 4 0) 5 2) = true := by decide +kernel
theorem wk7_0_0_2_0_3 : wk 7 2 6 5 (aw (aw (aw (aw (aw c0 1 0) 2 0) 3 2) 4 0) 5 3) = true := by decide +kernel
theorem wk7_0_0_2_0 : wk 7 3 5 2 (aw (aw (aw (aw c0 1 0) 2 0) 3 2) 4 0) = true := wk_c (fun v hv => by
  rcases (by omega : v = 0 ∨ v = 1 ∨ v = 2 ∨ v = 3) with rfl | rfl | rfl | rfl
  · exact wk7_0_0_2_0_0
  · exact wk7_0_0_2_0_1
  · exact wk7_0_0_2_0_2
  · exact wk7_0_0_2_0_3)
theorem wk7_0_0_2_1_0 : wk 7 2 6 3 (aw (aw (aw (aw (aw c0 1 0) 2 0) 3 2) 4 1) 5 0) = true := by decide +kernel
theorem wk7_0_0_2_1_1 : wk 7 2 6 4 (aw (aw (aw (aw (aw c0 1 0) 2 0) 3 2) 4 1) 5 1) = true := by decide +kernel
theorem wk7_0_0_2_1_2 : wk 7 2 6 5 (aw (aw (aw (aw (aw c0 1 0) 2 0) 3 2) 4 1) 5 2) = true := by decide +kernel
theorem wk7_0_0_2_1 : wk 7 3 5 3 (aw (aw (aw (aw c0 1 0) 2 0) 3 2) 4 1) = true := wk_c (fun v hv => by
  rcases (by omega : v = 0 ∨ v = 1 ∨ v = 2) with rfl | rfl | rfl
  · exact wk7_0_0_2_1_0
  · exact wk7_0_0_2_1_1
  · exact wk7_0_0_2_1_2)
theorem wk7_0_0_2_2_0 : wk 7 2 6 4 (aw (aw (aw (aw (aw c0 1 0) 2 0) 3 2) 4 2) 5 0) = true := by decide +kernel
theorem wk7_0_0_2_2_1 : wk 7 2 6 5 (aw (aw (aw (aw (aw c0 1 0) 2 0) 3 2) 4 2) 5 1) = true := by decide +kernel
theorem wk7_0_0_2_2 : wk 7 3 5 4 (aw (aw (aw (aw c0 1 0) 2 0) 3 2) 4 2) = true := wk_c (fun v hv => by
  rcases (by omega : v = 0 ∨ v = 1) with rfl | rfl
  · exact wk7_0_0_2_2_0
  · exact wk7_0_0_2_2_1)
theorem wk7_0_0_2 : wk 7 4 4 2 (aw (aw (aw c0 1 0) 2 0) 3 2) = true := wk_c (fun v hv => by
  rcases (by omega : v = 0 ∨ v = 1 ∨ v = 2) with rfl | rfl | rfl
  · exact wk7_0_0_2_0
  · exact wk7_0_0_2_1
  · exact wk7_0_0_2_2)
theorem wk7_0_0_3_0_0 : wk 7 2 6 3 (aw (aw (aw (aw (aw c0 1 0) 2 0) 3 3) 4 0) 5 0) = true := by decide +kernel
theorem wk7_0_0_3_0_1 : wk 7 2 6 4 (aw (aw (aw (aw (aw c0 1 0) 2 0) 3 3) 4 0) 5 1) = true := by decide +kernel
theorem wk7_0_0_3_0_2 : wk 7 2 6 5 (aw (aw (aw (aw (aw c0 1 0) 2 0) 3 3) 4 0) 5 2) = true := by decide +kernel
theorem wk7_0_0_3_0 : wk 7 3 5 3 (aw (aw (aw (aw c0 1 0) 2 0) 3 3) 4 0) = true := wk_c (fun v hv => by
  rcases (by omega : v = 0 ∨ v = 1 ∨ v = 2) with rfl | rfl | rfl
  · exact wk7_0_0_3_0_0
  · exact wk7_0_0_3_0_1
  · exact wk7_0_0_3_0_2)
theorem wk7_0_0_3_1_0 : wk 7 2 6 4 (aw (aw (aw (aw (aw c0 1 0) 2 0) 3 3) 4 1) 5 0) = true := by decide +kernel
theorem wk7_0_0_3_1_1 : wk 7 2 6 5 (aw (aw (aw (aw (aw c0 1 0) 2 0) 3 3) 4 1) 5 1) = true := by decide +kernel
theorem wk7_0_0_3_1 : wk 7 3 5 4 (aw (aw (aw (aw c0 1 0) 2 0) 3 3) 4 1) = true := wk_c (fun v hv => by
  rcases (by omega : v = 0 ∨ v = 1) with rfl | rfl
  · exact wk7_0_0_3_1_0
  · exact wk7_0_0_3_1_1)
theorem wk7_0_0_3 : wk 7 4 4 3 (aw (aw (aw c0 1 0) 2 0) 3 3) = true := wk_c (fun v hv => by
  rcases (by omega : v = 0 ∨ v = 1) with rfl | rfl
  · exact wk7_0_0_3_0
  · exact wk7_0_0_3_1)
theorem wk7_0_0 : wk 7 5 3 0 (aw (aw c0 1 0) 2 0) = true := wk_c (fun v hv => by
  rcases (by omega : v = 0 ∨ v = 1 ∨ v = 2 ∨ v = 3) with rfl | rfl | rfl | rfl
  · exact wk7_0_0_0
  · exact wk7_0_0_1
  · exact wk7_0_0_2
  · exact wk7_0_0_3)
theorem wk7_0_1_0_0_0 : wk 7 2 6 1 (aw (aw (aw (aw (aw c0 1 0) 2 1) 3 0) 4 0) 5 0) = true := by decide +kernel
theorem wk7_0_1_0_0_1 : wk 7 2 6 2 (aw (aw (aw (aw (aw c0 1 0) 2 1) 3 0) 4 0) 5 1) = true := by decide +kernel
theorem wk7_0_1_0_0_2 : wk 7 2 6 3 (aw (aw (aw (aw (aw c0 1 0) 2 1) 3 0) 4 0) 5 2) = true := by decide +kernel
theorem wk7_0_1_0_0_3 : wk 7 2 6 4 (aw (aw (aw (aw (aw c0 1 0) 2 1) 3 0) 4 0) 5 3) = true := by decide +kernel
theorem wk7_0_1_0_0_4 : wk 7 2 6 5 (aw (aw (aw (aw (aw c0 1 0) 2 1) 3 0) 4 0) 5 4) = true := by decide +kernel
theorem wk7_0_1_0_0 : wk 7 3 5 1 (aw (aw (aw (aw c0 1 0) 2 1) 3 0) 4 0) = true := wk_c (fun v hv => by
  rcases (by omega : v = 0 ∨ v = 1 ∨ v = 2 ∨ v = 3 ∨ v = 4) with rfl | rfl | rfl | rfl | rfl
  · exact wk7_0_1_0_0_0
  · exact wk7_0_1_0_0_1
  · exact wk7_0_1_0_0_2
  · exact wk7_0_1_0_0_3
  · exact wk7_0_1_0_0_4)
theorem wk7_0_1_0_1_0 : wk 7 2 6 2 (aw (aw (aw (aw (aw c0 1 0) 2 1) 3 0) 4 1) 5 0) = true := by decide +kernel
theorem wk7_0_1_0_1_1 : wk 7 2 6 3 (aw (aw (aw (aw (aw c0 1 0) 2 1) 3 0) 4 1) 5 1) = true := by decide +kernel
theorem wk7_0_1_0_1_2 : wk 7 2 6 4 (aw (aw (aw (aw (aw c0 1 0) 2 1) 3 0) 4 1) 5 2) = true := by decide +kernel
theorem wk7_0_1_0_1_3 : wk 7 2 6 5 (aw (aw (aw (aw (aw c0 1 0) 2 1) 3 0) 4 1) 5 3) = true := by decide +kernel
theorem wk7_0_1_0_1 : wk 7 3 5 2 (aw (aw (aw (aw c0 1 0) 2 1) 3 0) 4 1) = true := wk_c (fun v hv => by
  rcases (by omega : v = 0 ∨ v = 1 ∨ v = 2 ∨ v = 3) with rfl | rfl | rfl | rfl
  · exact wk7_0_1_0_1_0
  · exact wk7_0_1_0_1_1
  · exact wk7_0_1_0_1_2
  · exact wk7_0_1_0_1_3)
theorem wk7_0_1_0_2_0 : wk 7 2 6 3 (aw (aw (aw (aw (aw c0 1 0) 2 1) 3 0) 4 2) 5 0) = true := by decide +kernel
theorem wk7_0_1_0_2_1 : wk 7 2 6 4 (aw (aw (aw (aw (aw c0 1 0) 2 1) 3 0) 4 2) 5 1) = true := by decide +kernel
theorem wk7_0_1_0_2_2 : wk 7 2 6 5 (aw (aw (aw (aw (aw c0 1 0) 2 1) 3 0) 4 2) 5 2) = true := by decide +kernel
theorem wk7_0_1_0_2 : wk 7 3 5 3 (aw (aw (aw (aw c0 1 0) 2 1) 3 0) 4 2) = true := wk_c (fun v hv => by
  rcases (by omega : v = 0 ∨ v = 1 ∨ v = 2) with rfl | rfl | rfl
  · exact wk7_0_1_0_2_0
  · exact wk7_0_1_0_2_1
  · exact wk7_0_1_0_2_2)
theorem wk7_0_1_0_3_0 : wk 7 2 6 4 (aw (aw (aw (aw (aw c0 1 0) 2 1) 3 0) 4 3) 5 0) = true := by decide +kernel
theorem wk7_0_1_0_3_1 : wk 7 2 6 5 (aw (aw (aw (aw (aw c0 1 0) 2 1) 3 0) 4 3) 5 1) = true := by decide +kernel
theorem wk7_0_1_0_3 : wk 7 3 5 4 (aw (aw (aw (aw c0 1 0) 2 1) 3 0) 4 3) = true := wk_c (fun v hv => by
  rcases (by omega : v = 0 ∨ v = 1) with rfl | rfl
  · exact wk7_0_1_0_3_0
  · exact wk7_0_1_0_3_1)
theorem wk7_0_1_0 : wk 7 4 4 1 (aw (aw (aw c0 1 0) 2 1) 3 0) = true := wk_c (fun v hv => by
  rcases (by omega : v = 0 ∨ v = 1 ∨ v = 2 ∨ v = 3) with rfl | rfl | rfl | rfl
  · exact wk7_0_1_0_0
  · exact wk7_0_1_0_1
  · exact wk7_0_1_0_2
  · exact wk7_0_1_0_3)
theorem wk7_0_1_1_0_0 : wk 7 2 6 2 (aw (aw (aw (aw (aw c0 1 0) 2 1) 3 1) 4 0) 5 0) = true := by decide +kernel
theorem wk7_0_1_1_0_1 : wk 7 2 6 3 (aw (aw (aw (aw (aw c0 1 0) 2 1) 3 1) 4 0) 5 1) = true := by decide +kernel
theorem wk7_0_1_1_0_2 : wk 7 2 6 4 (aw (aw (aw (aw (aw c0 1 0) 2 1) 3 1) 4 0) 5 2) = true := by decide +kernel
theorem wk7_0_1_1_0_3 : wk 7 2 6 5 (aw (aw (aw (aw (aw c0 1 0) 2 1) 3 1) 4 0) 5 3) = true := by decide +kernel
theorem wk7_0_1_1_0 : wk 7 3 5 2 (aw (aw (aw (aw c0 1 0) 2 1) 3 1) 4 0) = true := wk_c (fun v hv => by
  rcases (by omega : v = 0 ∨ v = 1 ∨ v = 2 ∨ v = 3) with rfl | rfl | rfl | rfl
  · exact wk7_0_1_1_0_0
  · exact wk7_0_1_1_0_1
  · exact wk7_0_1_1_0_2
  · exact wk7_0_1_1_0_3)
theorem wk7_0_1_1_1_0 : wk 7 2 6 3 (aw (aw (aw (aw (aw c0 1 0) 2 1) 3 1) 4 1) 5 0) = true := by decide +kernel
theorem wk7_0_1_1_1_1 : wk 7 2 6 4 (aw (aw (aw (aw (aw c0 1 0) 2 1) 3 1) 4 1) 5 1) = true := by decide +kernel
theorem wk7_0_1_1_1_2 : wk 7 2 6 5 (aw (aw (aw (aw (aw c0 1 0) 2 1) 3 1) 4 1) 5 2) = true := by decide +kernel
theorem wk7_0_1_1_1 : wk 7 3 5 3 (aw (aw (aw (aw c0 1 0) 2 1) 3 1) 4 1) = true := wk_c (fun v hv => by
  rcases (by omega : v = 0 ∨ v = 1 ∨ v = 2) with rfl | rfl | rfl
  · exact wk7_0_1_1_1_0
  · exact wk7_0_1_1_1_1
  · exact wk7_0_1_1_1_2)
theorem wk7_0_1_1_2_0 : wk 7 2 6 4 (aw (aw (aw (aw (aw c0 1 0) 2 1) 3 1) 4 2) 5 0) = true := by decide +kernel
theorem wk7_0_1_1_2_1 : wk 7 2 6 5 (aw (aw (aw (aw (aw c0 1 0) 2 1) 3 1) 4 2) 5 1) = true := by decide +kernel
theorem wk7_0_1_1_2 : wk 7 3 5 4 (aw (aw (aw (aw c0 1 0) 2 1) 3 1) 4 2) = true := wk_c (fun v hv => by
  rcases (by omega : v = 0 ∨ v = 1) with rfl | rfl
  · exact wk7_0_1_1_2_0
  · exact wk7_0_1_1_2_1)
theorem wk7_0_1_1 : wk 7 4 4 2 (aw (aw (aw c0 1 0) 2 1) 3 1) = true := wk_c (fun v hv => by
  rcases (by omega : v = 0 ∨ v = 1 ∨ v = 2) with rfl | rfl | rfl
  · exact wk7_0_1_1_0
  · exact wk7_0_1_1_1
  · exact wk7_0_1_1_2)
theorem wk7_0_1_2_0_0 : wk 7 2 6 3 (aw (aw (aw (aw (aw c0 1 0) 2 1) 3 2) 4 0) 5 0) = true := by decide +kernel
theorem wk7_0_1_2_0_1 : wk 7 2 6 4 (aw (aw (aw (aw (aw c0 1 0) 2 1) 3 2) 4 0) 5 1) = true := by decide +kernel
theorem wk7_0_1_2_0_2 : wk 7 2 6 5 (aw (aw (aw (aw (aw c0 1 0) 2 1) 3 2) 4 0) 5 2) = true := by decide +kernel
theorem wk7_0_1_2_0 : wk 7 3 5 3 (aw (aw (aw (aw c0 1 0) 2 1) 3 2) 4 0) = true := wk_c (fun v hv => by
  rcases (by omega : v = 0 ∨ v = 1 ∨ v = 2) with rfl | rfl | rfl
  · exact wk7_0_1_2_0_0
  · exact wk7_0_1_2_0_1
  · exact wk7_0_1_2_0_2)
theorem wk7_0_1_2_1_0 : wk 7 2 6 4 (aw (aw (aw (aw (aw c0 1 0) 2 1) 3 2) 4 1) 5 0) = true := by decide +kernel
theorem wk7_0_1_2_1_1 : wk 7 2 6 5 (aw (aw (aw (aw (aw c0 1 0) 2 1) 3 2) 4 1) 5 1) = true := by decide +kernel
theorem wk7_0_1_2_1 : wk 7 3 5 4 (aw (aw (aw (aw c0 1 0) 2 1) 3 2) 4 1) = true := wk_c (fun v hv => by
  rcases (by omega : v = 0 ∨ v = 1) with rfl | rfl
  · exact wk7_0_1_2_1_0
  · exact wk7_0_1_2_1_1)
theorem wk7_0_1_2 : wk 7 4 4 3 (aw (aw (aw c0 1 0) 2 1) 3 2) = true := wk_c (fun v hv => by
  rcases (by omega : v = 0 ∨ v = 1) with rfl | rfl
  · exact wk7_0_1_2_0
  · exact wk7_0_1_2_1)
theorem wk7_0_1 : wk 7 5 3 1 (aw (aw c0 1 0) 2 1) = true := wk_c (fun v hv => by
  rcases (by omega : v = 0 ∨ v = 1 ∨ v = 2) with rfl | rfl | rfl
  · exact wk7_0_1_0
  · exact wk7_0_1_1
  · exact wk7_0_1_2)
theorem wk7_0_2_0_0_0 : wk 7 2 6 2 (aw (aw (aw (aw (aw c0 1 0) 2 2) 3 0) 4 0) 5 0) = true := by decide +kernel
theorem wk7_0_2_0_0_1 : wk 7 2 6 3 (aw (aw (aw (aw (aw c0 1 0) 2 2) 3 0) 4 0) 5 1) = true := by decide +kernel
theorem wk7_0_2_0_0_2 : wk 7 2 6 4 (aw (aw (aw (aw (aw c0 1 0) 2 2) 3 0) 4 0) 5 2) = true := by decide +kernel
theorem wk7_0_2_0_0_3 : wk 7 2 6 5 (aw (aw (aw (aw (aw c0 1 0) 2 2) 3 0) 4 0) 5 3) = true := by decide +kernel
theorem wk7_0_2_0_0 : wk 7 3 5 2 (aw (aw (aw (aw c0 1 0) 2 2) 3 0) 4 0) = true := wk_c (fun v hv => by
  rcases (by omega : v = 0 ∨ v = 1 ∨ v = 2 ∨ v = 3) with rfl | rfl | rfl | rfl
  · exact wk7_0_2_0_0_0
  · exact wk7_0_2_0_0_1
  · exact wk7_0_2_0_0_2
  · exact wk7_0_2_0_0_3)
theorem wk7_0_2_0_1_0 : wk 7 2 6 3 (aw (aw (aw (aw (aw c0 1 0) 2 2) 3 0) 4 1) 5 0) = true := by decide +kernel
theorem wk7_0_2_0_1_1 : wk 7 2 6 4 (aw (aw (aw (aw (aw c0 1 0) 2 2) 3 0) 4 1) 5 1) = true := by decide +kernel
theorem wk7_0_2_0_1_2 : wk 7 2 6 5 (aw (aw (aw (aw (aw c0 1 0) 2 2) 3 0) 4 1) 5 2) = true := by decide +kernel
theorem wk7_0_2_0_1 : wk 7 3 5 3 (aw (aw (aw (aw c0 1 0) 2 2) 3 0) 4 1) = true := wk_c (fun v hv => by
  rcases (by omega : v = 0 ∨ v = 1 ∨ v = 2) with rfl | rfl | rfl
  · exact wk7_0_2_0_1_0
  · exact wk7_0_2_0_1_1
  · exact wk7_0_2_0_1_2)
theorem wk7_0_2_0_2_0 : wk 7 2 6 4 (aw (aw (aw (aw (aw c0 1 0) 2 2) 3 0) 4 2) 5 0) = true := by decide +kernel
theorem wk7_0_2_0_2_1 : wk 7 2 6 5 (aw (aw (aw (aw (aw c0 1 0) 2 2) 3 0) 4 2) 5 1) = true := by decide +kernel
theorem wk7_0_2_0_2 : wk 7 3 5 4 (aw (aw (aw (aw c0 1 0) 2 2) 3 0) 4 2) = true := wk_c (fun v hv => by
  rcases (by omega : v = 0 ∨ v = 1) with rfl | rfl
  · exact wk7_0_2_0_2_0
  · exact wk7_0_2_0_2_1)
theorem wk7_0_2_0 : wk 7 4 4 2 (aw (aw (aw c0 1 0) 2 2) 3 0) = true := wk_c (fun v hv => by
  rcases (by omega : v = 0 ∨ v = 1 ∨ v = 2) with rfl | rfl | rfl
  · exact wk7_0_2_0_0
  · exact wk7_0_2_0_1
  · exact wk7_0_2_0_2)
theorem wk7_0_2_1_0_0 : wk 7 2 6 3 (aw (aw (aw (aw (aw c0 1 0) 2 2) 3 1) 4 0) 5 0) = true := by decide +kernel
theorem wk7_0_2_1_0_1 : wk 7 2 6 4 (aw (aw (aw (aw (aw c0 1 0) 2 2) 3 1) 4 0) 5 1) = true := by decide +kernel
theorem wk7_0_2_1_0_2 : wk 7 2 6 5 (aw (aw (aw (aw (aw c0 1 0) 2 2) 3 1) 4 0) 5 2) = true := by decide +kernel
theorem wk7_0_2_1_0 : wk 7 3 5 3 (aw (aw (aw (aw c0 1 0) 2 2) 3 1) 4 0) = true := wk_c (fun v hv => by
  rcases (by omega : v = 0 ∨ v = 1 ∨ v = 2) with rfl | rfl | rfl
  · exact wk7_0_2_1_0_0
  · exact wk7_0_2_1_0_1
  · exact wk7_0_2_1_0_2)
theorem wk7_0_2_1_1_0 : wk 7 2 6 4 (aw (aw (aw (aw (aw c0 1 0) 2 2) 3 1) 4 1) 5 0) = true := by decide +kernel
theorem wk7_0_2_1_1_1 : wk 7 2 6 5 (aw (aw (aw (aw (aw c0 1 0) 2 2) 3 1) 4 1) 5 1) = true := by decide +kernel
theorem wk7_0_2_1_1 : wk 7 3 5 4 (aw (aw (aw (aw c0 1 0) 2 2) 3 1) 4 1) = true := wk_c (fun v hv => by
  rcases (by omega : v = 0 ∨ v = 1) with rfl | rfl
  · exact wk7_0_2_1_1_0
  · exact wk7_0_2_1_1_1)
theorem wk7_0_2_1 : wk 7 4 4 3 (aw (aw (aw c0 1 0) 2 2) 3 1) = true := wk_c (fun v hv => by
  rcases (by omega : v = 0 ∨ v = 1) with rfl | rfl
  · exact wk7_0_2_1_0
  · exact wk7_0_2_1_1)
theorem wk7_0_2 : wk 7 5 3 2 (aw (aw c0 1 0) 2 2) = true := wk_c (fun v hv => by
  rcases (by omega : v = 0 ∨ v = 1) with rfl | rfl
  · exact wk7_0_2_0
  · exact wk7_0_2_1)
theorem wk7_0 : wk 7 6 2 0 (aw c0 1 0) = true := wk_c (fun v hv => by
  rcases (by omega : v = 0 ∨ v = 1 ∨ v = 2) with rfl | rfl | rfl
  · exact wk7_0_0
  · exact wk7_0_1
  · exact wk7_0_2)
theorem wk7_1_0_0_0_0 : wk 7 2 6 1 (aw (aw (aw (aw (aw c0 1 1) 2 0) 3 0) 4 0) 5 0) = true := by decide +kernel
theorem wk7_1_0_0_0_1 : wk 7 2 6 2 (aw (aw (aw (aw (aw c0 1 1) 2 0) 3 0) 4 0) 5 1) = true := by decide +kernel
theorem wk7_1_0_0_0_2 : wk 7 2 6 3 (aw (aw (aw (aw (aw c0 1 1) 2 0) 3 0) 4 0) 5 2) = true := by decide +kernel
theorem wk7_1_0_0_0_3 : wk 7 2 6 4 (aw (aw (aw (aw (aw c0 1 1) 2 0) 3 0) 4 0) 5 3) = true := by decide +kernel
theorem wk7_1_0_0_0_4 : wk 7 2 6 5 (aw (aw (aw (aw (aw c0 1 1) 2 0) 3 0) 4 0) 5 4) = true := by decide +kernel
theorem wk7_1_0_0_0 : wk 7 3 5 1 (aw (aw (aw (aw c0 1 1) 2 0) 3 0) 4 0) = true := wk_c (fun v hv => by
  rcases (by omega : v = 0 ∨ v = 1 ∨ v = 2 ∨ v = 3 ∨ v = 4) with rfl | rfl | rfl | rfl | rfl
  · exact wk7_1_0_0_0_0
  · exact wk7_1_0_0_0_1
  · exact wk7_1_0_0_0_2
  · exact wk7_1_0_0_0_3
  · exact wk7_1_0_0_0_4)
theorem wk7_1_0_0_1_0 : wk 7 2 6 2 (aw (aw (aw (aw (aw c0 1 1) 2 0) 3 0) 4 1) 5 0) = true := by decide +kernel
theorem wk7_1_0_0_1_1 : wk 7 2 6 3 (aw (aw (aw (aw (aw c0 1 1) 2 0) 3 0) 4 1) 5 1) = true := by decide +kernel
theorem wk7_1_0_0_1_2 : wk 7 2 6 4 (aw (aw (aw (aw (aw c0 1 1) 2 0) 3 0) 4 1) 5 2) = true := by decide +kernel
theorem wk7_1_0_0_1_3 : wk 7 2 6 5 (aw (aw (aw (aw (aw c0 1 1) 2 0) 3 0) 4 1) 5 3) = true := by decide +kernel
theorem wk7_1_0_0_1 : wk 7 3 5 2 (aw (aw (aw (aw c0 1 1) 2 0) 3 0) 4 1) = true := wk_c (fun v hv => by
  rcases (by omega : v = 0 ∨ v = 1 ∨ v = 2 ∨ v = 3) with rfl | rfl | rfl | rfl
  · exact wk7_1_0_0_1_0
  · exact wk7_1_0_0_1_1
  · exact wk7_1_0_0_1_2
  · exact wk7_1_0_0_1_3)
theorem wk7_1_0_0_2_0 : wk 7 2 6 3 (aw (aw (aw (aw (aw c0 1 1) 2 0) 3 0) 4 2) 5 0) = true := by decide +kernel
theorem wk7_1_0_0_2_1 : wk 7 2 6 4 (aw (aw (aw (aw (aw c0 1 1) 2 0) 3 0) 4 2) 5 1) = true := by decide +kernel
theorem wk7_1_0_0_2_2 : wk 7 2 6 5 (aw (aw (aw (aw (aw c0 1 1) 2 0) 3 0) 4 2) 5 2) = true := by decide +kernel
theorem wk7_1_0_0_2 : wk 7 3 5 3 (aw (aw (aw (aw c0 1 1) 2 0) 3 0) 4 2) = true := wk_c (fun v hv => by
  rcases (by omega : v = 0 ∨ v = 1 ∨ v = 2) with rfl | rfl | rfl
  · exact wk7_1_0_0_2_0
  · exact wk7_1_0_0_2_1
  · exact wk7_1_0_0_2_2)
theorem wk7_1_0_0_3_0 : wk 7 2 6 4 (aw (aw (aw (aw (aw c0 1 1) 2 0) 3 0) 4 3) 5 0) = true := by decide +kernel
theorem wk7_1_0_0_3_1 : wk 7 2 6 5 (aw (aw (aw (aw (aw c0 1 1) 2 0) 3 0) 4 3) 5 1) = true := by decide +kernel
theorem wk7_1_0_0_3 : wk 7 3 5 4 (aw (aw (aw (aw c0 1 1) 2 0) 3 0) 4 3) = true := wk_c (fun v hv => by
  rcases (by omega : v = 0 ∨ v = 1) with rfl | rfl
  · exact wk7_1_0_0_3_0
  · exact wk7_1_0_0_3_1)
theorem wk7_1_0_0 : wk 7 4 4 1 (aw (aw (aw c0 1 1) 2 0) 3 0) = true := wk_c (fun v hv => by
  rcases (by omega : v = 0 ∨ v = 1 ∨ v = 2 ∨ v = 3) with rfl | rfl | rfl | rfl
  · exact wk7_1_0_0_0
  · exact wk7_1_0_0_1
  · exact wk7_1_0_0_2
  · exact wk7_1_0_0_3)
theorem wk7_1_0_1_0_0 : wk 7 2 6 2 (aw (aw (aw (aw (aw c0 1 1) 2 0) 3 1) 4 0) 5 0) = true := by decide +kernel
theorem wk7_1_0_1_0_1 : wk 7 2 6 3 (aw (aw (aw (aw (aw c0 1 1) 2 0) 3 1) 4 0) 5 1) = true := by decide +kernel
theorem wk7_1_0_1_0_2 : wk 7 2 6 4 (aw (aw (aw (aw (aw c0 1 1) 2 0) 3 1) 4 0) 5 2) = true := by decide +kernel
theorem wk7_1_0_1_0_3 : wk 7 2 6 5 (aw (aw (aw (aw (aw c0 1 1) 2 0) 3 1) 4 0) 5 3) = true := by decide +kernel
theorem wk7_1_0_1_0 : wk 7 3 5 2 (aw (aw (aw (aw c0 1 1) 2 0) 3 1) 4 0) = true := wk_c (fun v hv => by
  rcases (by omega : v = 0 ∨ v = 1 ∨ v = 2 ∨ v = 3) with rfl | rfl | rfl | rfl
  · exact wk7_1_0_1_0_0
  · exact wk7_1_0_1_0_1
  · exact wk7_1_0_1_0_2
  · exact wk7_1_0_1_0_3)
theorem wk7_1_0_1_1_0 : wk 7 2 6 3 (aw (aw (aw (aw (aw c0 1 1) 2 0) 3 1) 4 1) 5 0) = true := by decide +kernel
theorem wk7_1_0_1_1_1 : wk 7 2 6 4 (aw (aw (aw (aw (aw c0 1 1) 2 0) 3 1) 4 1) 5 1) = true := by decide +kernel
theorem wk7_1_0_1_1_2 : wk 7 2 6 5 (aw (aw (aw (aw (aw c0 1 1) 2 0) 3 1) 4 1) 5 2) = true := by decide +kernel
theorem wk7_1_0_1_1 : wk 7 3 5 3 (aw (aw (aw (aw c0 1 1) 2 0) 3 1) 4 1) = true := wk_c (fun v hv => by
  rcases (by omega : v = 0 ∨ v = 1 ∨ v = 2) with rfl | rfl | rfl
  · exact wk7_1_0_1_1_0
  · exact wk7_1_0_1_1_1
  · exact wk7_1_0_1_1_2)
theorem wk7_1_0_1_2_0 : wk 7 2 6 4 (aw (aw (aw (aw (aw c0 1 1) 2 0) 3 1) 4 2) 5 0) = true := by decide +kernel
theorem wk7_1_0_1_2_1 : wk 7 2 6 5 (aw (aw (aw (aw (aw c0 1 1) 2 0) 3 1) 4 2) 5 1) = true := by decide +kernel
theorem wk7_1_0_1_2 : wk 7 3 5 4 (aw (aw (aw (aw c0 1 1) 2 0) 3 1) 4 2) = true := wk_c (fun v hv => by
  rcases (by omega : v = 0 ∨ v = 1) with rfl | rfl
  · exact wk7_1_0_1_2_0
  · exact wk7_1_0_1_2_1)
theorem wk7_1_0_1 : wk 7 4 4 2 (aw (aw (aw c0 1 1) 2 0) 3 1) = true := wk_c (fun v hv => by
  rcases (by omega : v = 0 ∨ v = 1 ∨ v = 2) with rfl | rfl | rfl
  · exact wk7_1_0_1_0
  · exact wk7_1_0_1_1
  · exact wk7_1_0_1_2)
theorem wk7_1_0_2_0_0 : wk 7 2 6 3 (aw (aw (aw (aw (aw c0 1 1) 2 0) 3 2) 4 0) 5 0) = true := by decide +kernel
theorem wk7_1_0_2_0_1 : wk 7 2 6 4 (aw (aw (aw (aw (aw c0 1 1) 2 0) 3 2) 4 0) 5 1) = true := by decide +kernel
theorem wk7_1_0_2_0_2 : wk 7 2 6 5 (aw (aw (aw (aw (aw c0 1 1) 2 0) 3 2) 4 0) 5 2) = true := by decide +kernel
theorem wk7_1_0_2_0 : wk 7 3 5 3 (aw (aw (aw (aw c0 1 1) 2 0) 3 2) 4 0) = true := wk_c (fun v hv => by
  rcases (by omega : v = 0 ∨ v = 1 ∨ v = 2) with rfl | rfl | rfl
  · exact wk7_1_0_2_0_0
  · exact wk7_1_0_2_0_1
  · exact wk7_1_0_2_0_2)
theorem wk7_1_0_2_1_0 : wk 7 2 6 4 (aw (aw (aw (aw (aw c0 1 1) 2 0) 3 2) 4 1) 5 0) = true := by decide +kernel
theorem wk7_1_0_2_1_1 : wk 7 2 6 5 (aw (aw (aw (aw (aw c0 1 1) 2 0) 3 2) 4 1) 5 1) = true := by decide +kernel
theorem wk7_1_0_2_1 : wk 7 3 5 4 (aw (aw (aw (aw c0 1 1) 2 0) 3 2) 4 1) = true := wk_c (fun v hv => by
  rcases (by omega : v = 0 ∨ v = 1) with rfl | rfl
  · exact wk7_1_0_2_1_0
  · exact wk7_1_0_2_1_1)
theorem wk7_1_0_2 : wk 7 4 4 3 (aw (aw (aw c0 1 1) 2 0) 3 2) = true := wk_c (fun v hv => by
  rcases (by omega : v = 0 ∨ v = 1) with rfl | rfl
  · exact wk7_1_0_2_0
  · exact wk7_1_0_2_1)
theorem wk7_1_0 : wk 7 5 3 1 (aw (aw c0 1 1) 2 0) = true := wk_c (fun v hv => by
  rcases (by omega : v = 0 ∨ v = 1 ∨ v = 2) with rfl | rfl | rfl
  · exact wk7_1_0_0
  · exact wk7_1_0_1
  · exact wk7_1_0_2)
theorem wk7_1_1_0_0_0 : wk 7 2 6 2 (aw (aw (aw (aw (aw c0 1 1) 2 1) 3 0) 4 0) 5 0) = true := by decide +kernel
theorem wk7_1_1_0_0_1 : wk 7 2 6 3 (aw (aw (aw (aw (aw c0 1 1) 2 1) 3 0) 4 0) 5 1) = true := by decide +kernel
theorem wk7_1_1_0_0_2 : wk 7 2 6 4 (aw (aw (aw (aw (aw c0 1 1) 2 1) 3 0) 4 0) 5 2) = true := by decide +kernel
theorem wk7_1_1_0_0_3 : wk 7 2 6 5 (aw (aw (aw (aw (aw c0 1 1) 2 1) 3 0) 4 0) 5 3) = true := by decide +kernel
theorem wk7_1_1_0_0 : wk 7 3 5 2 (aw (aw (aw (aw c0 1 1) 2 1) 3 0) 4 0) = true := wk_c (fun v hv => by
  rcases (by omega : v = 0 ∨ v = 1 ∨ v = 2 ∨ v = 3) with rfl | rfl | rfl | rfl
  · exact wk7_1_1_0_0_0
  · exact wk7_1_1_0_0_1
  · exact wk7_1_1_0_0_2
  · exact wk7_1_1_0_0_3)
theorem wk7_1_1_0_1_0 : wk 7 2 6 3 (aw (aw (aw (aw (aw c0 1 1) 2 1) 3 0) 4 1) 5 0) = true := by decide +kernel
theorem wk7_1_1_0_1_1 : wk 7 2 6 4 (aw (aw (aw (aw (aw c0 1 1) 2 1) 3 0) 4 1) 5 1) = true := by decide +kernel
theorem wk7_1_1_0_1_2 : wk 7 2 6 5 (aw (aw (aw (aw (aw c0 1 1) 2 1) 3 0) 4 1) 5 2) = true := by decide +kernel
theorem wk7_1_1_0_1 : wk 7 3 5 3 (aw (aw (aw (aw c0 1 1) 2 1) 3 0) 4 1) = true := wk_c (fun v hv => by
  rcases (by omega : v = 0 ∨ v = 1 ∨ v = 2) with rfl | rfl | rfl
  · exact wk7_1_1_0_1_0
  · exact wk7_1_1_0_1_1
  · exact wk7_1_1_0_1_2)
theorem wk7_1_1_0_2_0 : wk 7 2 6 4 (aw (aw (aw (aw (aw c0 1 1) 2 1) 3 0) 4 2) 5 0) = true := by decide +kernel
theorem wk7_1_1_0_2_1 : wk 7 2 6 5 (aw (aw (aw (aw (aw c0 1 1) 2 1) 3 0) 4 2) 5 1) = true := by decide +kernel
theorem wk7_1_1_0_2 : wk 7 3 5 4 (aw (aw (aw (aw c0 1 1) 2 1) 3 0) 4 2) = true := wk_c (fun v hv => by
  rcases (by omega : v = 0 ∨ v = 1) with rfl | rfl
  · exact wk7_1_1_0_2_0
  · exact wk7_1_1_0_2_1)
theorem wk7_1_1_0 : wk 7 4 4 2 (aw (aw (aw c0 1 1) 2 1) 3 0) = true := wk_c (fun v hv => by
  rcases (by omega : v = 0 ∨ v = 1 ∨ v = 2) with rfl | rfl | rfl
  · exact wk7_1_1_0_0
  · exact wk7_1_1_0_1
  · exact wk7_1_1_0_2)
theorem wk7_1_1_1_0_0 : wk 7 2 6 3 (aw (aw (aw (aw (aw c0 1 1) 2 1) 3 1) 4 0) 5 0) = true := by decide +kernel
theorem wk7_1_1_1_0_1 : wk 7 2 6 4 (aw (aw (aw (aw (aw c0 1 1) 2 1) 3 1) 4 0) 5 1) = true := by decide +kernel
theorem wk7_1_1_1_0_2 : wk 7 2 6 5 (aw (aw (aw (aw (aw c0 1 1) 2 1) 3 1) 4 0) 5 2) = true := by decide +kernel
theorem wk7_1_1_1_0 : wk 7 3 5 3 (aw (aw (aw (aw c0 1 1) 2 1) 3 1) 4 0) = true := wk_c (fun v hv => by
  rcases (by omega : v = 0 ∨ v = 1 ∨ v = 2) with rfl | rfl | rfl
  · exact wk7_1_1_1_0_0
  · exact wk7_1_1_1_0_1
  · exact wk7_1_1_1_0_2)
theorem wk7_1_1_1_1_0 : wk 7 2 6 4 (aw (aw (aw (aw (aw c0 1 1) 2 1) 3 1) 4 1) 5 0) = true := by decide +kernel
theorem wk7_1_1_1_1_1 : wk 7 2 6 5 (aw (aw (aw (aw (aw c0 1 1) 2 1) 3 1) 4 1) 5 1) = true := by decide +kernel
theorem wk7_1_1_1_1 : wk 7 3 5 4 (aw (aw (aw (aw c0 1 1) 2 1) 3 1) 4 1) = true := wk_c (fun v hv => by
  rcases (by omega : v = 0 ∨ v = 1) with rfl | rfl
  · exact wk7_1_1_1_1_0
  · exact wk7_1_1_1_1_1)
theorem wk7_1_1_1 : wk 7 4 4 3 (aw (aw (aw c0 1 1) 2 1) 3 1) = true := wk_c (fun v hv => by
  rcases (by omega : v = 0 ∨ v = 1) with rfl | rfl
  · exact wk7_1_1_1_0
  · exact wk7_1_1_1_1)
theorem wk7_1_1 : wk 7 5 3 2 (aw (aw c0 1 1) 2 1) = true := wk_c (fun v hv => by
  rcases (by omega : v = 0 ∨ v = 1) with rfl | rfl
  · exact wk7_1_1_0
  · exact wk7_1_1_1)
theorem wk7_1 : wk 7 6 2 1 (aw c0 1 1) = true := wk_c (fun v hv => by
  rcases (by omega : v = 0 ∨ v = 1) with rfl | rfl
  · exact wk7_1_0
  · exact wk7_1_1)
theorem wk7 : wk 7 7 1 0 (c0) = true := wk_c (fun v hv => by
  rcases (by omega : v = 0 ∨ v = 1) with rfl | rfl
  · exact wk7_0
  · exact wk7_1)
theorem wk8_0_0_0_0_0_0 : wk 8 2 7 0 (aw (aw (aw (aw (aw (aw c0 1 0) 2 0) 3 0) 4 0) 5 0) 6 0) = true := by decide +kernel
theorem wk8_0_0_0_0_0_1 : wk 8 2 7 1 (aw (aw (aw (aw (aw (aw c0 1 0) 2 0) 3 0) 4 0) 5 0) 6 1) = true := by decide +kernel
theorem wk8_0_0_0_0_0_2 : wk 8 2 7 2 (aw (aw (aw (aw (aw (aw c0 1 0) 2 0) 3 0) 4 0) 5 0) 6 2) = true := by decide +kernel
theorem wk8_0_0_0_0_0_3 : wk 8 2 7 3 (aw (aw (aw (aw (aw (aw c0 1 0) 2 0) 3 0) 4 0) 5 0) 6 3) = true := by decide +kernel
theorem wk8_0_0_0_0_0_4 : wk 8 2 7 4 (aw (aw (aw (aw (aw (aw c0 1 0) 2 0) 3 0) 4 0) 5 0) 6 4) = true := by decide +kernel
theorem wk8_0_0_0_0_0_5 : wk 8 2 7 5 (aw (aw (aw (aw (aw (aw c0 1 0) 2 0) 3 0) 4 0) 5 0) 6 5) = true := by decide +kernel
theorem wk8_0_0_0_0_0_6 : wk 8 2 7 6 (aw (aw (aw (aw (aw (aw c0 1 0) 2 0) 3 0) 4 0) 5 0) 6 6) = true := by decide +kernel
theorem wk8_0_0_0_0_0 : wk 8 3 6 0 (aw (aw (aw (aw (aw c0 1 0) 2 0) 3 0) 4 0) 5 0) = true := wk_c (fun v hv => by
  rcases (by omega : v = 0 ∨ v = 1 ∨ v = 2 ∨ v = 3 ∨ v = 4 ∨ v = 5 ∨ v = 6) with rfl | rfl | rfl | rfl | rfl | rfl | rfl
  · exact wk8_0_0_0_0_0_0
  · exact wk8_0_0_0_0_0_1
  · exact wk8_0_0_0_0_0_2
  · exact wk8_0_0_0_0_0_3
  · exact wk8_0_0_0_0_0_4
  · exact wk8_0_0_0_0_0_5
  · exact wk8_0_0_0_0_0_6)
theorem wk8_0_0_0_0_1_0 : wk 8 2 7 1 (aw (aw (aw (aw (aw (aw c0 1 0) 2 0) 3 0) 4 0) 5 1) 6 0) = true := by decide +kernel
theorem wk8_0_0_0_0_1_1 : wk 8 2 7 2 (aw (aw (aw (aw (aw (aw c0 1 0) 2 0) 3 0) 4 0) 5 1) 6 1) = true := by decide +kernel
theorem wk8_0_0_0_0_1_2 : wk 8 2 7 3 (aw (aw (aw (aw (aw (aw c0 1 0) 2 0) 3 0) 4 0) 5 1) 6 2) = true := by decide +kernel
theorem wk8_0_0_0_0_1_3 : wk 8 2 7 4 (aw (aw (aw (aw (aw (aw c0 1 0) 2 0) 3 0) 4 0) 5 1) 6 3) = true := by decide +kernel
theorem wk8_0_0_0_0_1_4 : wk 8 2 7 5 (aw (aw (aw (aw (aw (aw c0 1 0) 2 0) 3 0) 4 0) 5 1) 6 4) = true := by decide +kernel
theorem wk8_0_0_0_0_1_5 : wk 8 2 7 6 (aw (aw (aw (aw (aw (aw c0 1 0) 2 0) 3 0) 4 0) 5 1) 6 5) = true := by decide +kernel
theorem wk8_0_0_0_0_1 : wk 8 3 6 1 (aw (aw (aw (aw (aw c0 1 0) 2 0) 3 0) 4 0) 5 1) = true := wk_c (fun v hv => by
  rcases (by omega : v = 0 ∨ v = 1 ∨ v = 2 ∨ v = 3 ∨ v = 4 ∨ v = 5) with rfl | rfl | rfl | rfl | rfl | rfl
  · exact wk8_0_0_0_0_1_0
  · exact wk8_0_0_0_0_1_1
  · exact wk8_0_0_0_0_1_2
  · exact wk8_0_0_0_0_1_3
  · exact wk8_0_0_0_0_1_4
  · exact wk8_0_0_0_0_1_5)
theorem wk8_0_0_0_0_2_0 : wk 8 2 7 2 (aw (aw (aw (aw (aw (aw c0 1 0) 2 0) 3 0) 4 0) 5 2) 6 0) = true := by decide +kernel
theorem wk8_0_0_0_0_2_1 : wk 8 2 7 3 (aw (aw (aw (aw (aw (aw c0 1 0) 2 0) 3 0) 4 0) 5 2) 6 1) = true := by decide +kernel
theorem wk8_0_0_0_0_2_2 : wk 8 2 7 4 (aw (aw (aw (aw (aw (aw c0 1 0) 2 0) 3 0) 4 0) 5 2) 6 2) = true := by decide +kernel
theorem wk8_0_0_0_0_2_3 : wk 8 2 7 5 (aw (aw (aw (aw (aw (aw c0 1 0) 2 0) 3 0) 4 0) 5 2) 6 3) = true := by decide +kernel
theorem wk8_0_0_0_0_2_4 : wk 8 2 7 6 (aw (aw (aw (aw (aw (aw c0 1 0) 2 0) 3 0) 4 0) 5 2) 6 4) = true := by decide +kernel
theorem wk8_0_0_0_0_2 : wk 8 3 6 2 (aw (aw (aw (aw (aw c0 1 0) 2 0) 3 0) 4 0) 5 2) = true := wk_c (fun v hv => by
  rcases (by omega : v = 0 ∨ v = 1 ∨ v = 2 ∨ v = 3 ∨ v = 4) with rfl | rfl | rfl | rfl | rfl
  · exact wk8_0_0_0_0_2_0
  · exact wk8_0_0_0_0_2_1
  · exact wk8_0_0_0_0_2_2
  · exact wk8_0_0_0_0_2_3
  · exact wk8_0_0_0_0_2_4)
theorem wk8_0_0_0_0_3_0 : wk 8 2 7 3 (aw (aw (aw (aw (aw (aw c0 1 0) 2 0) 3 0) 4 0) 5 3) 6 0) = true := by decide +kernel
theorem wk8_0_0_0_0_3_1 : wk 8 2 7 4 (aw (aw (aw (aw (aw (aw c0 1 0) 2 0) 3 0) 4 0) 5 3) 6 1) = true := by decide +kernel
theorem wk8_0_0_0_0_3_2 : wk 8 2 7 5 (aw (aw (aw (aw (aw (aw c0 1 0) 2 0) 3 0) 4 0) 5 3) 6 2) = true := by decide +kernel
theorem wk8_0_0_0_0_3_3 : wk 8 2 7 6 (aw (aw (aw (aw (aw (aw c0 1 0) 2 0) 3 0) 4 0) 5 3) 6 3) = true := by decide +kernel
theorem wk8_0_0_0_0_3 : wk 8 3 6 3 (aw (aw (aw (aw (aw c0 1 0) 2 0) 3 0) 4 0) 5 3) = true := wk_c (fun v hv => by
  rcases (by omega : v = 0 ∨ v = 1 ∨ v = 2 ∨ v = 3) with rfl | rfl | rfl | rfl
  · exact wk8_0_0_0_0_3_0
  · exact wk8_0_0_0_0_3_1
  · exact wk8_0_0_0_0_3_2
  · exact wk8_0_0_0_0_3_3)
theorem wk8_0_0_0_0_4_0 : wk 8 2 7 4 (aw (aw (aw (aw (aw (aw c0 1 0) 2 0) 3 0) 4 0) 5 4) 6 0) = true := by decide +kernel
theorem wk8_0_0_0_0_4_1 : wk 8 2 7 5 (aw (aw (aw (aw (aw (aw c0 1 0) 2 0) 3 0) 4 0) 5 4) 6 1) = true := by decide +kernel
theorem wk8_0_0_0_0_4_2 : wk 8 2 7 6 (aw (aw (aw (aw (aw (aw c0 1 0) 2 0) 3 0) 4 0) 5 4) 6 2) = true := by decide +kernel
theorem wk8_0_0_0_0_4 : wk 8 3 6 4 (aw (aw (aw (aw (aw c0 1 0) 2 0) 3 0) 4 0) 5 4) = true := wk_c (fun v hv => by
  rcases (by omega : v = 0 ∨ v = 1 ∨ v = 2) with rfl | rfl | rfl
  · exact wk8_0_0_0_0_4_0
  · exact wk8_0_0_0_0_4_1
  · exact wk8_0_0_0_0_4_2)
theorem wk8_0_0_0_0_5_0 : wk 8 2 7 5 (aw (aw (aw (aw (aw (aw c0 1 0) 2 0) 3 0) 4 0) 5 5) 6 0) = true := by decide +kernel
theorem wk8_0_0_0_0_5_1 : wk 8 2 7 6 (aw (aw (aw (aw (aw (aw c0 1 0) 2 0) 3 0) 4 0) 5 5) 6 1) = true := by decide +kernel
theorem wk8_0_0_0_0_5 : wk 8 3 6 5 (aw (aw (aw (aw (aw c0 1 0) 2 0) 3 0) 4 0) 5 5) = true := wk_c (fun v hv => by
  rcases (by omega : v = 0 ∨ v = 1) with rfl | rfl
  · exact wk8_0_0_0_0_5_0
  · exact wk8_0_0_0_0_5_1)
theorem wk8_0_0_0_0 : wk 8 4 5 0 (aw (aw (aw (aw c0 1 0) 2 0) 3 0) 4 0) = true := wk_c (fun v hv => by
  rcases (by omega : v = 0 ∨ v = 1 ∨ v = 2 ∨ v = 3 ∨ v = 4 ∨ v = 5) with rfl | rfl | rfl | rfl | rfl | rfl
  · exact wk8_0_0_0_0_0
  · exact wk8_0_0_0_0_1
  · exact wk8_0_0_0_0_2
  · exact wk8_0_0_0_0_3
  · exact wk8_0_0_0_0_4
  · exact wk8_0_0_0_0_5)
theorem wk8_0_0_0_1_0_0 : wk 8 2 7 1 (aw (aw (aw (aw (aw (aw c0 1 0) 2 0) 3 0) 4 1) 5 0) 6 0) = true := by decide +kernel
theorem wk8_0_0_0_1_0_1 : wk 8 2 7 2 (aw (aw (aw (aw (aw (aw c0 1 0) 2 0) 3 0) 4 1) 5 0) 6 1) = true := by decide +kernel
theorem wk8_0_0_0_1_0_2 : wk 8 2 7 3 (aw (aw (aw (aw (aw (aw c0 1 0) 2 0) 3 0) 4 1) 5 0) 6 2) = true := by decide +kernel
theorem wk8_0_0_0_1_0_3 : wk 8 2 7 4 (aw (aw (aw (aw (aw (aw c0 1 0) 2 0) 3 0) 4 1) 5 0) 6 3) = true := by decide +kernel
theorem wk8_0_0_0_1_0_4 : wk 8 2 7 5 (aw (aw (aw (aw (aw (aw c0 1 0) 2 0) 3 0) 4 1) 5 0) 6 4) = true := by decide +kernel
theorem wk8_0_0_0_1_0_5 : wk 8 2 7 6 (aw (aw (aw (aw (aw (aw c0 1 0) 2 0) 3 0) 4 1) 5 0) 6 5) = true := by decide +kernel
theorem wk8_0_0_0_1_0 : wk 8 3 6 1 (aw (aw (aw (aw (aw c0 1 0) 2 0) 3 0) 4 1) 5 0) = true := wk_c (fun v hv => by
  rcases (by omega : v = 0 ∨ v = 1 ∨ v = 2 ∨ v = 3 ∨ v = 4 ∨ v = 5) with rfl | rfl | rfl | rfl | rfl | rfl
  · exact wk8_0_0_0_1_0_0
  · exact wk8_0_0_0_1_0_1
  · exact wk8_0_0_0_1_0_2
  · exact wk8_0_0_0_1_0_3
  · exact wk8_0_0_0_1_0_4
  · exact wk8_0_0_0_1_0_5)
theorem wk8_0_0_0_1_1_0 : wk 8 2 7 2 (aw (aw (aw (aw (aw (aw c0 1 0) 2 0) 3 0) 4 1) 5 1) 6 0) = true := by decide +kernel
theorem wk8_0_0_0_1_1_1 : wk 8 2 7 3 (aw (aw (aw (aw (aw (aw c0 1 0) 2 0) 3 0) 4 1) 5 1) 6 1) = true := by decide +kernel
theorem wk8_0_0_0_1_1_2 : wk 8 2 7 4 (aw (aw (aw (aw (aw (aw c0 1 0) 2 0) 3 0) 4 1) 5 1) 6 2) = true := by decide +kernel
theorem wk8_0_0_0_1_1_3 : wk 8 2 7 5 (aw (aw (aw (aw (aw (aw c0 1 0) 2 0) 3 0) 4 1) 5 1) 6 3) = true := by decide +kernel
theorem wk8_0_0_0_1_1_4 : wk 8 2 7 6 (aw (aw (aw (aw (aw (aw c0 1 0) 2 0) 3 0) 4 1) 5 1) 6 4) = true := by decide +kernel
theorem wk8_0_0_0_1_1 : wk 8 3 6 2 (aw (aw (aw (aw (aw c0 1 0) 2 0) 3 0) 4 1) 5 1) = true := wk_c (fun v hv => by
  rcases (by omega : v = 0 ∨ v = 1 ∨ v = 2 ∨ v = 3 ∨ v = 4) with rfl | rfl | rfl | rfl | rfl
  · exact wk8_0_0_0_1_1_0
  · exact wk8_0_0_0_1_1_1
  · exact wk8_0_0_0_1_1_2
  · exact wk8_0_0_0_1_1_3
  · exact wk8_0_0_0_1_1_4)
theorem wk8_0_0_0_1_2_0 : wk 8 2 7 3 (aw (aw (aw (aw (aw (aw c0 1 0) 2 0) 3 0) 4 1) 5 2) 6 0) = true := by decide +kernel
theorem wk8_0_0_0_1_2_1 : wk 8 2 7 4 (aw (aw (aw (aw (aw (aw c0 1 0) 2 0) 3 0) 4 1) 5 2) 6 1) = true := by decide +kernel
theorem wk8_0_0_0_1_2_2 : wk 8 2 7 5 (aw (aw (aw (aw (aw (aw c0 1 0) 2 0) 3 0) 4 1) 5 2) 6 2) = true := by decide +kernel
theorem wk8_0_0_0_1_2_3 : wk 8 2 7 6 (aw (aw (aw (aw (aw (aw c0 1 0) 2 0) 3 0) 4 1) 5 2) 6 3) = true := by decide +kernel
theorem wk8_0_0_0_1_2 : wk 8 3 6 3 (aw (aw (aw (aw (aw c0 1 0) 2 0) 3 0) 4 1) 5 2) = true := wk_c (fun v hv => by
  rcases (by omega : v = 0 ∨ v = 1 ∨ v = 2 ∨ v = 3) with rfl | rfl | rfl | rfl
  · exact wk8_0_0_0_1_2_0
  · exact wk8_0_0_0_1_2_1
  · exact wk8_0_0_0_1_2_2
  · exact wk8_0_0_0_1_2_3)
theorem wk8_0_0_0_1_3_0 : wk 8 2 7 4 (aw (aw (aw (aw (aw (aw c0 1 0) 2 0) 3 0) 4 1) 5 3) 6 0) = true := by decide +kernel
theorem wk8_0_0_0_1_3_1 : wk 8 2 7 5 (aw (aw (aw (aw (aw (aw c0 1 0) 2 0) 3 0) 4 1) 5 3) 6 1) = true := by decide +kernel
theorem wk8_0_0_0_1_3_2 : wk 8 2 7 6 (aw (aw (aw (aw (aw (aw c0 1 0) 2 0) 3 0) 4 1) 5 3) 6 2) = true := by decide +kernel
theorem wk8_0_0_0_1_3 : wk 8 3 6 4 (aw (aw (aw (aw (aw c0 1 0) 2 0) 3 0) 4 1) 5 3) = true := wk_c (fun v hv => by
  rcases (by omega : v = 0 ∨ v = 1 ∨ v = 2) with rfl | rfl | rfl
  · exact wk8_0_0_0_1_3_0
  · exact wk8_0_0_0_1_3_1
  · exact wk8_0_0_0_1_3_2)
theorem wk8_0_0_0_1_4_0 : wk 8 2 7 5 (aw (aw (aw (aw (aw (aw c0 1 0) 2 0) 3 0) 4 1) 5 4) 6 0) = true := by decide +kernel
theorem wk8_0_0_0_1_4_1 : wk 8 2 7 6 (aw (aw (aw (aw (aw (aw c0 1 0) 2 0) 3 0) 4 1) 5 4) 6 1) = true := by decide +kernel
theorem wk8_0_0_0_1_4 : wk 8 3 6 5 (aw (aw (aw (aw (aw c0 1 0) 2 0) 3 0) 4 1) 5 4) = true := wk_c (fun v hv => by
  rcases (by omega : v = 0 ∨ v = 1) with rfl | rfl
  · exact wk8_0_0_0_1_4_0
  · exact wk8_0_0_0_1_4_1)
theorem wk8_0_0_0_1 : wk 8 4 5 1 (aw (aw (aw (aw c0 1 0) 2 0) 3 0) 4 1) = true := wk_c (fun v hv => by
  rcases (by omega : v = 0 ∨ v = 1 ∨ v = 2 ∨ v = 3 ∨ v = 4) with rfl | rfl | rfl | rfl | rfl
  · exact wk8_0_0_0_1_0
  · exact wk8_0_0_0_1_1
  · exact wk8_0_0_0_1_2
  · exact wk8_0_0_0_1_3
  · exact wk8_0_0_0_1_4)
theorem wk8_0_0_0_2_0_0 : wk 8 2 7 2 (aw (aw (aw (aw (aw (aw c0 1 0) 2 0) 3 0) 4 2) 5 0) 6 0) = true := by decide +kernel
theorem wk8_0_0_0_2_0_1 : wk 8 2 7 3 (aw (aw (aw (aw (aw (aw c0 1 0) 2 0) 3 0) 4 2) 5 0) 6 1) = true := by decide +kernel
theorem wk8_0_0_0_2_0_2 : wk 8 2 7 4 (aw (aw (aw (aw (aw (aw c0 1 0) 2 0) 3 0) 4 2) 5 0) 6 2) = true := by decide +kernel
theorem wk8_0_0_0_2_0_3 : wk 8 2 7 5 (aw (aw (aw (aw (aw (aw c0 1 0) 2 0) 3 0) 4 2) 5 0) 6 3) = true := by decide +kernel
theorem wk8_0_0_0_2_0_4 : wk 8 2 7 6 (aw (aw (aw (aw (aw (aw c0 1 0) 2 0) 3 0) 4 2) 5 0) 6 4) = true := by decide +kernel
theorem wk8_0_0_0_2_0 : wk 8 3 6 2 (aw (aw (aw (aw (aw c0 1 0) 2 0) 3 0) 4 2) 5 0) = true := wk_c (fun v hv => by
  rcases (by omega : v = 0 ∨ v = 1 ∨ v = 2 ∨ v = 3 ∨ v = 4) with rfl | rfl | rfl | rfl | rfl
  · exact wk8_0_0_0_2_0_0
  · exact wk8_0_0_0_2_0_1
  · exact wk8_0_0_0_2_0_2
  · exact wk8_0_0_0_2_0_3
  · exact wk8_0_0_0_2_0_4)
theorem wk8_0_0_0_2_1_0 : wk 8 2 7 3 (aw (aw (aw (aw (aw (aw c0 1 0) 2 0) 3 0) 4 2) 5 1) 6 0) = true := by decide +kernel
theorem wk8_0_0_0_2_1_1 : wk 8 2 7 4 (aw (aw (aw (aw (aw (aw c0 1 0) 2 0) 3 0) 4 2) 5 1) 6 1) = true := by decide +kernel
theorem wk8_0_0_0_2_1_2 : wk 8 2 7 5 (aw (aw (aw (aw (aw (aw c0 1 0) 2 0) 3 0) 4 2) 5 1) 6 2) = true := by decide +kernel
theorem wk8_0_0_0_2_1_3 : wk 8 2 7 6 (aw (aw (aw (aw (aw (aw c0 1 0) 2 0) 3 0) 4 2) 5 1) 6 3) = true := by decide +kernel
theorem wk8_0_0_0_2_1 : wk 8 3 6 3 (aw (aw (aw (aw (aw c0 1 0) 2 0) 3 0) 4 2) 5 1) = true := wk_c (fun v hv => by
  rcases (by omega : v = 0 ∨ v = 1 ∨ v = 2 ∨ v = 3) with rfl | rfl | rfl | rfl
  · exact wk8_0_0_0_2_1_0
  · exact wk8_0_0_0_2_1_1
  · exact wk8_0_0_0_2_1_2
  · exact wk8_0_0_0_2_1_3)
theorem wk8_0_0_0_2_2_0 : wk 8 2 7 4 (aw (aw (aw (aw (aw (aw c0 1 0) 2 0) 3 0) 4 2) 5 2) 6 0) = true := by decide +kernel
theorem wk8_0_0_0_2_2_1 : wk 8 2 7 5 (aw (aw (aw (aw (aw (aw c0 1 0) 2 0) 3 0) 4 2) 5 2) 6 1) = true := by decide +kernel
theorem wk8_0_0_0_2_2_2 : wk 8 2 7 6 (aw (aw (aw (aw (aw (aw c0 1 0) 2 0) 3 0) 4 2) 5 2) 6 2) = true := by decide +kernel
theorem wk8_0_0_0_2_2 : wk 8 3 6 4 (aw (aw (aw (aw (aw c0 1 0) 2 0) 3 0) 4 2) 5 2) = true := wk_c (fun v hv => by
  rcases (by omega : v = 0 ∨ v = 1 ∨ v = 2) with rfl | rfl | rfl
  · exact wk8_0_0_0_2_2_0
  · exact wk8_0_0_0_2_2_1
  · exact wk8_0_0_0_2_2_2)
theorem wk8_0_0_0_2_3_0 : wk 8 2 7 5 (aw (aw (aw (aw (aw (aw c0 1 0) 2 0) 3 0) 4 2) 5 3) 6 0) = true := by decide +kernel
theorem wk8_0_0_0_2_3_1 : wk 8 2 7 6 (aw (aw (aw (aw (aw (aw c0 1 0) 2 0) 3 0) 4 2) 5 3) 6 1) = true := by decide +kernel
theorem wk8_0_0_0_2_3 : wk 8 3 6 5 (aw (aw (aw (aw (aw c0 1 0) 2 0) 3 0) 4 2) 5 3) = true := wk_c (fun v hv => by
  rcases (by omega : v = 0 ∨ v = 1) with rfl | rfl
  · exact wk8_0_0_0_2_3_0
  · exact wk8_0_0_0_2_3_1)
theorem wk8_0_0_0_2 : wk 8 4 5 2 (aw (aw (aw (aw c0 1 0) 2 0) 3 0) 4 2) = true := wk_c (fun v hv => by
  rcases (by omega : v = 0 ∨ v = 1 ∨ v = 2 ∨ v = 3) with rfl | rfl | rfl | rfl
  · exact wk8_0_0_0_2_0
  · exact wk8_0_0_0_2_1
  · exact wk8_0_0_0_2_2
  · exact wk8_0_0_0_2_3)
theorem wk8_0_0_0_3_0_0 : wk 8 2 7 3 (aw (aw (aw (aw (aw (aw c0 1 0) 2 0) 3 0) 4 3) 5 0) 6 0) = true := by decide +kernel
theorem wk8_0_0_0_3_0_1 : wk 8 2 7 4 (aw (aw (aw (aw (aw (aw c0 1 0) 2 0) 3 0) 4 3) 5 0) 6 1) = true := by decide +kernel
theorem wk8_0_0_0_3_0_2 : wk 8 2 7 5 (aw (aw (aw (aw (aw (aw c0 1 0) 2 0) 3 0) 4 3) 5 0) 6 2) = true := by decide +kernel
theorem wk8_0_0_0_3_0_3 : wk 8 2 7 6 (aw (aw (aw (aw (aw (aw c0 1 0) 2 0) 3 0) 4 3) 5 0) 6 3) = true := by decide +kernel
theorem wk8_0_0_0_3_0 : wk 8 3 6 3 (aw (aw (aw (aw (aw c0 1 0) 2 0) 3 0) 4 3) 5 0) = true := wk_c (fun v hv => by
  rcases (by omega : v = 0 ∨ v = 1 ∨ v = 2 ∨ v = 3) with rfl | rfl | rfl | rfl
  · exact wk8_0_0_0_3_0_0
  · exact wk8_0_0_0_3_0_1
  · exact wk8_0_0_0_3_0_2
  · exact wk8_0_0_0_3_0_3)
theorem wk8_0_0_0_3_1_0 : wk 8 2 7 4 (aw (aw (aw (aw (aw (aw c0 1 0) 2 0) 3 0) 4 3) 5 1) 6 0) = true := by decide +kernel
theorem wk8_0_0_0_3_1_1 : wk 8 2 7 5 (aw (aw (aw (aw (aw (aw c0 1 0) 2 0) 3 0) 4 3) 5 1) 6 1) = true := by decide +kernel
theorem wk8_0_0_0_3_1_2 : wk 8 2 7 6 (aw (aw (aw (aw (aw (aw c0 1 0) 2 0) 3 0) 4 3) 5 1) 6 2) = true := by decide +kernel
theorem wk8_0_0_0_3_1 : wk 8 3 6 4 (aw (aw (aw (aw (aw c0 1 0) 2 0) 3 0) 4 3) 5 1) = true := wk_c (fun v hv => by
  rcases (by omega : v = 0 ∨ v = 1 ∨ v = 2) with rfl | rfl | rfl
  · exact wk8_0_0_0_3_1_0
  · exact wk8_0_0_0_3_1_1
  · exact wk8_0_0_0_3_1_2)
theorem wk8_0_0_0_3_2_0 : wk 8 2 7 5 (aw (aw (aw (aw (aw (aw c0 1 0) 2 0) 3 0) 4 3) 5 2) 6 0) = true := by decide +kernel
theorem wk8_0_0_0_3_2_1 : wk 8 2 7 6 (aw (aw (aw (aw (aw (aw c0 1 0) 2 0) 3 0) 4 3) 5 2) 6 1) = true := by decide +kernel
theorem wk8_0_0_0_3_2 : wk 8 3 6 5 (aw (aw (aw (aw (aw c0 1 0) 2 0) 3 0) 4 3) 5 2) = true := wk_c (fun v hv => by
  rcases (by omega : v = 0 ∨ v = 1) with rfl | rfl
  · exact wk8_0_0_0_3_2_0
  · exact wk8_0_0_0_3_2_1)
theorem wk8_0_0_0_3 : wk 8 4 5 3 (aw (aw (aw (aw c0 1 0) 2 0) 3 0) 4 3) = true := wk_c (fun v hv => by
  rcases (by omega : v = 0 ∨ v = 1 ∨ v = 2) with rfl | rfl | rfl
  · exact wk8_0_0_0_3_0
  · exact wk8_0_0_0_3_1
  · exact wk8_0_0_0_3_2)
theorem wk8_0_0_0_4_0_0 : wk 8 2 7 4 (aw (aw (aw (aw (aw (aw c0 1 0) 2 0) 3 0) 4 4) 5 0) 6 0) = true := by decide +kernel
theorem wk8_0_0_0_4_0_1 : wk 8 2 7 5 (aw (aw (aw (aw (aw (aw c0 1 0) 2 0) 3 0) 4 4) 5 0) 6 1) = true := by decide +kernel
theorem wk8_0_0_0_4_0_2 : wk 8 2 7 6 (aw (aw (aw (aw (aw (aw c0 1 0) 2 0) 3 0) 4 4) 5 0) 6 2) = true := by decide +kernel
theorem wk8_0_0_0_4_0 : wk 8 3 6 4 (aw (aw (aw (aw (aw c0 1 0) 2 0) 3 0) 4 4) 5 0) = true := wk_c (fun v hv => by
  rcases (by omega : v = 0 ∨ v = 1 ∨ v = 2) with rfl | rfl | rfl
  · exact wk8_0_0_0_4_0_0
  · exact wk8_0_0_0_4_0_1
  · exact wk8_0_0_0_4_0_2)
theorem wk8_0_0_0_4_1_0 : wk 8 2 7 5 (aw (aw (aw (aw (aw (aw c0 1 0) 2 0) 3 0) 4 4) 5 1) 6 0) = true := by decide +kernel
theorem wk8_0_0_0_4_1_1 : wk 8 2 7 6 (aw (aw (aw (aw (aw (aw c0 1 0) 2 0) 3 0) 4 4) 5 1) 6 1) = true := by decide +kernel
theorem wk8_0_0_0_4_1 : wk 8 3 6 5 (aw (aw (aw (aw (aw c0 1 0) 2 0) 3 0) 4 4) 5 1) = true := wk_c (fun v hv => by
  rcases (by omega : v = 0 ∨ v = 1) with rfl | rfl
  · exact wk8_0_0_0_4_1_0
  · exact wk8_0_0_0_4_1_1)
theorem wk8_0_0_0_4 : wk 8 4 5 4 (aw (aw (aw (aw c0 1 0) 2 0) 3 0) 4 4) = true := wk_c (fun v hv => by
  rcases (by omega : v = 0 ∨ v = 1) with rfl | rfl
  · exact wk8_0_0_0_4_0
  · exact wk8_0_0_0_4_1)
theorem wk8_0_0_0 : wk 8 5 4 0 (aw (aw (aw c0 1 0) 2 0) 3 0) = true := wk_c (fun v hv => by
  rcases (by omega : v = 0 ∨ v = 1 ∨ v = 2 ∨ v = 3 ∨ v = 4) with rfl | rfl | rfl | rfl | rfl
  · exact wk8_0_0_0_0
  · exact wk8_0_0_0_1
  · exact wk8_0_0_0_2
  · exact wk8_0_0_0_3
  · exact wk8_0_0_0_4)
theorem wk8_0_0_1_0_0_0 : wk 8 2 7 1 (aw (aw (aw (aw (aw (aw c0 1 0) 2 0) 3 1) 4 0) 5 0) 6 0) = true := by decide +kernel
theorem wk8_0_0_1_0_0_1 : wk 8 2 7 2 (aw (aw (aw (aw (aw (aw c0 1 0) 2 0) 3 1) 4 0) 5 0) 6 1) = true := by decide +kernel
theorem wk8_0_0_1_0_0_2 : wk 8 2 7 3 (aw (aw (aw (aw (aw (aw c0 1 0) 2 0) 3 1) 4 0) 5 0) 6 2) = true := by decide +kernel
theorem wk8_0_0_1_0_0_3 : wk 8 2 7 4 (aw (aw (aw (aw (aw (aw c0 1 0) 2 0) 3 1) 4 0) 5 0) 6 3) = true := by decide +kernel
theorem wk8_0_0_1_0_0_4 : wk 8 2 7 5 (aw (aw (aw (aw (aw (aw c0 1 0) 2 0) 3 1) 4 0) 5 0) 6 4) = true := by decide +kernel
theorem wk8_0_0_1_0_0_5 : wk 8 2 7 6 (aw (aw (aw (aw (aw (aw c0 1 0) 2 0) 3 1) 4 0) 5 0) 6 5) = true := by decide +kernel
theorem wk8_0_0_1_0_0 : wk 8 3 6 1 (aw (aw (aw (aw (aw c0 1 0) 2 0) 3 1) 4 0) 5 0) = true := wk_c (fun v hv => by
  rcases (by omega : v = 0 ∨ v = 1 ∨ v = 2 ∨ v = 3 ∨ v = 4 ∨ v = 5) with rfl | rfl | rfl | rfl | rfl | rfl
  · exact wk8_0_0_1_0_0_0
  · exact wk8_0_0_1_0_0_1
  · exact wk8_0_0_1_0_0_2
  · exact wk8_0_0_1_0_0_3
  · exact wk8_0_0_1_0_0_4
  · exact wk8_0_0_1_0_0_5)
theorem wk8_0_0_1_0_1_0 : wk 8 2 7 2 (aw (aw (aw (aw (aw (aw c0 1 0) 2 0) 3 1) 4 0) 5 1) 6 0) = true := by decide +kernel
theorem wk8_0_0_1_0_1_1 : wk 8 2 7 3 (aw (aw (aw (aw (aw (aw c0 1 0) 2 0) 3 1) 4 0) 5 1) 6 1) = true := by decide +kernel
theorem wk8_0_0_1_0_1_2 : wk 8 2 7 4 (aw (aw (aw (aw (aw (aw c0 1 0) 2 0) 3 1) 4 0) 5 1) 6 2) = true := by decide +kernel
theorem wk8_0_0_1_0_1_3 : wk 8 2 7 5 (aw (aw (aw (aw (aw (aw c0 1 0) 2 0) 3 1) 4 0) 5 1) 6 3) = true := by decide +kernel
theorem wk8_0_0_1_0_1_4 : wk 8 2 7 6 (aw (aw (aw (aw (aw (aw c0 1 0) 2 0) 3 1) 4 0) 5 1) 6 4) = true := by decide +kernel
theorem wk8_0_0_1_0_1 : wk 8 3 6 2 (aw (aw (aw (aw (aw c0 1 0) 2 0) 3 1) 4 0) 5 1) = true := wk_c (fun v hv => by
  rcases (by omega : v = 0 ∨ v = 1 ∨ v = 2 ∨ v = 3 ∨ v = 4) with rfl | rfl | rfl | rfl | rfl
  · exact wk8_0_0_1_0_1_0
  · exact wk8_0_0_1_0_1_1
  · exact wk8_0_0_1_0_1_2
  · exact wk8_0_0_1_0_1_3
  · exact wk8_0_0_1_0_1_4)
theorem wk8_0_0_1_0_2_0 : wk 8 2 7 3 (aw (aw (aw (aw (aw (aw c0 1 0) 2 0) 3 1) 4 0) 5 2) 6 0) = true := by decide +kernel
theorem wk8_0_0_1_0_2_1 : wk 8 2 7 4 (aw (aw (aw (aw (aw (aw c0 1 0) 2 0) 3 1) 4 0) 5 2) 6 1) = true := by decide +kernel
theorem wk8_0_0_1_0_2_2 : wk 8 2 7 5 (aw (aw (aw (aw (aw (aw c0 1 0) 2 0) 3 1) 4 0) 5 2) 6 2) = true := by decide +kernel
theorem wk8_0_0_1_0_2_3 : wk 8 2 7 6 (aw (aw (aw (aw (aw (aw c0 1 0) 2 0) 3 1) 4 0) 5 2) 6 3) = true := by decide +kernel
theorem wk8_0_0_1_0_2 : wk 8 3 6 3 (aw (aw (aw (aw (aw c0 1 0) 2 0) 3 1) 4 0) 5 2) = true := wk_c (fun v hv => by
  rcases (by omega : v = 0 ∨ v = 1 ∨ v = 2 ∨ v = 3) with rfl | rfl | rfl | rfl
  · exact wk8_0_0_1_0_2_0
  · exact wk8_0_0_1_0_2_1
  · exact wk8_0_0_1_0_2_2
  · exact wk8_0_0_1_0_2_3)
theorem wk8_0_0_1_0_3_0 : wk 8 2 7 4 (aw (aw (aw (aw (aw (aw c0 1 0) 2 0) 3 1) 4 0) 5 3) 6 0) = true := by decide +kernel
theorem wk8_0_0_1_0_3_1 : wk 8 2 7 5 (aw (aw (aw (aw (aw (aw c0 1 0) 2 0) 3 1) 4 0) 5 3) 6 1) = true := by decide +kernel
theorem wk8_0_0_1_0_3_2 : wk 8 2 7 6 (aw (aw (aw (aw (aw (aw c0 1 0) 2 0) 3 1) 4 0) 5 3) 6 2) = true := by decide +kernel
theorem wk8_0_0_1_0_3 : wk 8 3 6 4 (aw (aw (aw (aw (aw c0 1 0) 2 0) 3 1) 4 0) 5 3) = true := wk_c (fun v hv => by
  rcases (by omega : v = 0 ∨ v = 1 ∨ v = 2) with rfl | rfl | rfl
  · exact wk8_0_0_1_0_3_0
  · exact wk8_0_0_1_0_3_1
  · exact wk8_0_0_1_0_3_2)
theorem wk8_0_0_1_0_4_0 : wk 8 2 7 5 (aw (aw (aw (aw (aw (aw c0 1 0) 2 0) 3 1) 4 0) 5 4) 6 0) = true := by decide +kernel
theorem wk8_0_0_1_0_4_1 : wk 8 2 7 6 (aw (aw (aw (aw (aw (aw c0 1 0) 2 0) 3 1) 4 0) 5 4) 6 1) = true := by decide +kernel
theorem wk8_0_0_1_0_4 : wk 8 3 6 5 (aw (aw (aw (aw (aw c0 1 0) 2 0) 3 1) 4 0) 5 4) = true := wk_c (fun v hv => by
  rcases (by omega : v = 0 ∨ v = 1) with rfl | rfl
  · exact wk8_0_0_1_0_4_0
  · exact wk8_0_0_1_0_4_1)
theorem wk8_0_0_1_0 : wk 8 4 5 1 (aw (aw (aw (aw c0 1 0) 2 0) 3 1) 4 0) = true := wk_c (fun v hv => by
  rcases (by omega : v = 0 ∨ v = 1 ∨ v = 2 ∨ v = 3 ∨ v = 4) with rfl | rfl | rfl | rfl | rfl
  · exact wk8_0_0_1_0_0
  · exact wk8_0_0_1_0_1
  · exact wk8_0_0_1_0_2
  · exact wk8_0_0_1_0_3
  · exact wk8_0_0_1_0_4)
theorem wk8_0_0_1_1_0_0 : wk 8 2 7 2 (aw (aw (aw (aw (aw (aw c0 1 0) 2 0) 3 1) 4 1) 5 0) 6 0) = true := by decide +kernel
theorem wk8_0_0_1_1_0_1 : wk 8 2 7 3 (aw (aw (aw (aw (aw (aw c0 1 0) 2 0) 3 1) 4 1) 5 0) 6 1) = true := by decide +kernel
theorem wk8_0_0_1_1_0_2 : wk 8 2 7 4 (aw (aw (aw (aw (aw (aw c0 1 0) 2 0) 3 1) 4 1) 5 0) 6 2) = true := by decide +kernel
theorem wk8_0_0_1_1_0_3 : wk 8 2 7 5 (aw (aw (aw (aw (aw (aw c0 1 0) 2 0) 3 1) 4 1) 5 0) 6 3) = true := by decide +kernel
theorem wk8_0_0_1_1_0_4 : wk 8 2 7 6 (aw (aw (aw (aw (aw (aw c0 1 0) 2 0) 3 1) 4 1) 5 0) 6 4) = true := by decide +kernel
theorem wk8_0_0_1_1_0 : wk 8 3 6 2 (aw (aw (aw (aw (aw c0 1 0) 2 0) 3 1) 4 1) 5 0) = true := wk_c (fun v hv => by
  rcases (by omega : v = 0 ∨ v = 1 ∨ v = 2 ∨ v = 3 ∨ v = 4) with rfl | rfl | rfl | rfl | rfl
  · exact wk8_0_0_1_1_0_0
  · exact wk8_0_0_1_1_0_1
  · exact wk8_0_0_1_1_0_2
  · exact wk8_0_0_1_1_0_3
  · exact wk8_0_0_1_1_0_4)
theorem wk8_0_0_1_1_1_0 : wk 8 2 7 3 (aw (aw (aw (aw (aw (aw c0 1 0) 2 0) 3 1) 4 1) 5 1) 6 0) = true := by decide +kernel
theorem wk8_0_0_1_1_1_1 : wk 8 2 7 4 (aw (aw (aw (aw (aw (aw c0 1 0) 2 0) 3 1) 4 1) 5 1) 6 1) = true := by decide +kernel
theorem wk8_0_0_1_1_1_2 : wk 8 2 7 5 (aw (aw (aw (aw (aw (aw c0 1 0) 2 0) 3 1) 4 1) 5 1) 6 2) = true := by decide +kernel
theorem wk8_0_0_1_1_1_3 : wk 8 2 7 6 (aw (aw (aw (aw (aw (aw c0 1 0) 2 0) 3 1) 4 1) 5 1) 6 3) = true := by decide +kernel
theorem wk8_0_0_1_1_1 : wk 8 3 6 3 (aw (aw (aw (aw (aw c0 1 0) 2 0) 3 1) 4 1) 5 1) = true := wk_c (fun v hv => by
  rcases (by omega : v = 0 ∨ v = 1 ∨ v = 2 ∨ v = 3) with rfl | rfl | rfl | rfl
  · exact wk8_0_0_1_1_1_0
  · exact wk8_0_0_1_1_1_1
  · exact wk8_0_0_1_1_1_2
  · exact wk8_0_0_1_1_1_3)
theorem wk8_0_0_1_1_2_0 : wk 8 2 7 4 (aw (aw (aw (aw (aw (aw c0 1 0) 2 0) 3 1) 4 1) 5 2) 6 0) = true := by decide +kernel
theorem wk8_0_0_1_1_2_1 : wk 8 2 7 5 (aw (aw (aw (aw (aw (aw c0 1 0) 2 0) 3 1) 4 1) 5 2) 6 1) = true := by decide +kernel
theorem wk8_0_0_1_1_2_2 : wk 8 2 7 6 (aw (aw (aw (aw (aw (aw c0 1 0) 2 0) 3 1) 4 1) 5 2) 6 2) = true := by decide +kernel
theorem wk8_0_0_1_1_2 : wk 8 3 6 4 (aw (aw (aw (aw (aw c0 1 0) 2 0) 3 1) 4 1) 5 2) = true := wk_c (fun v hv => by
  rcases (by omega : v = 0 ∨ v = 1 ∨ v = 2) with rfl | rfl | rfl
  · exact wk8_0_0_1_1_2_0
  · exact wk8_0_0_1_1_2_1
  · exact wk8_0_0_1_1_2_2)
theorem wk8_0_0_1_1_3_0 : wk 8 2 7 5 (aw (aw (aw (aw (aw (aw c0 1 0) 2 0) 3 1) 4 1) 5 3) 6 0) = true := by decide +kernel
theorem wk8_0_0_1_1_3_1 : wk 8 2 7 6 (aw (aw (aw (aw (aw (aw c0 1 0) 2 0) 3 1) 4 1) 5 3) 6 1) = true := by decide +kernel
theorem wk8_0_0_1_1_3 : wk 8 3 6 5 (aw (aw (aw (aw (aw c0 1 0) 2 0) 3 1) 4 1) 5 3) = true := wk_c (fun v hv => by
  rcases (by omega : v = 0 ∨ v = 1) with rfl | rfl
  · exact wk8_0_0_1_1_3_0
  · exact wk8_0_0_1_1_3_1)
theorem wk8_0_0_1_1 : wk 8 4 5 2 (aw (aw (aw (aw c0 1 0) 2 0) 3 1) 4 1) = true := wk_c (fun v hv => by
  rcases (by omega : v = 0 ∨ v = 1 ∨ v = 2 ∨ v = 3) with rfl | rfl | rfl | rfl
  · exact wk8_0_0_1_1_0
  · exact wk8_0_0_1_1_1
  · exact wk8_0_0_1_1_2
  · exact wk8_0_0_1_1_3)
theorem wk8_0_0_1_2_0_0 : wk 8 2 7 3 (aw (aw (aw (aw (aw (aw c0 1 0) 2 0) 3 1) 4 2) 5 0) 6 0) = true := by decide +kernel
theorem wk8_0_0_1_2_0_1 : wk 8 2 7 4 (aw (aw (aw (aw (aw (aw c0 1 0) 2 0) 3 1) 4 2) 5 0) 6 1) = true := by decide +kernel
theorem wk8_0_0_1_2_0_2 : wk 8 2 7 5 (aw (aw (aw (aw (aw (aw c0 1 0) 2 0) 3 1) 4 2) 5 0) 6 2) = true := by decide +kernel
theorem wk8_0_0_1_2_0_3 : wk 8 2 7 6 (aw (aw (aw (aw (aw (aw c0 1 0) 2 0) 3 1) 4 2) 5 0) 6 3) = true := by decide +kernel
theorem wk8_0_0_1_2_0 : wk 8 3 6 3 (aw (aw (aw (aw (aw c0 1 0) 2 0) 3 1) 4 2) 5 0) = true := wk_c (fun v hv => by
  rcases (by omega : v = 0 ∨ v = 1 ∨ v = 2 ∨ v = 3) with rfl | rfl | rfl | rfl
  · exact wk8_0_0_1_2_0_0
  · exact wk8_0_0_1_2_0_1
  · exact wk8_0_0_1_2_0_2
  · exact wk8_0_0_1_2_0_3)
theorem wk8_0_0_1_2_1_0 : wk 8 2 7 4 (aw (aw (aw (aw (aw (aw c0 1 0) 2 0) 3 1) 4 2) 5 1) 6 0) = true := by decide +kernel
theorem wk8_0_0_1_2_1_1 : wk 8 2 7 5 (aw (aw (aw (aw (aw (aw c0 1 0) 2 0) 3 1) 4 2) 5 1) 6 1) = true := by decide +kernel
theorem wk8_0_0_1_2_1_2 : wk 8 2 7 6 (aw (aw (aw (aw (aw (aw c0 1 0) 2 0) 3 1) 4 2) 5 1) 6 2) = true := by decide +kernel
theorem wk8_0_0_1_2_1 : wk 8 3 6 4 (aw (aw (aw (aw (aw c0 1 0) 2 0) 3 1) 4 2) 5 1) = true := wk_c (fun v hv => by
  rcases (by omega : v = 0 ∨ v = 1 ∨ v = 2) with rfl | rfl | rfl
  · exact wk8_0_0_1_2_1_0
  · exact wk8_0_0_1_2_1_1
  · exact wk8_0_0_1_2_1_2)
theorem wk8_0_0_1_2_2_0 : wk 8 2 7 5 (aw (aw (aw (aw (aw (aw c0 1 0) 2 0) 3 1) 4 2) 5 2) 6 0) = true := by decide +kernel
theorem wk8_0_0_1_2_2_1 : wk 8 2 7 6 (aw (aw (aw (aw (aw (aw c0 1 0) 2 0) 3 1) 4 2) 5 2) 6 1) = true := by decide +kernel
theorem wk8_0_0_1_2_2 : wk 8 3 6 5 (aw (aw (aw (aw (aw c0 1 0) 2 0) 3 1) 4 2) 5 2) = true := wk_c (fun v hv => by
  rcases (by omega : v = 0 ∨ v = 1) with rfl | rfl
  · exact wk8_0_0_1_2_2_0
  · exact wk8_0_0_1_2_2_1)
theorem wk8_0_0_1_2 : wk 8 4 5 3 (aw (aw (aw (aw c0 1 0) 2 0) 3 1) 4 2) = true := wk_c (fun v hv => by
  rcases (by omega : v = 0 ∨ v = 1 ∨ v = 2) with rfl | rfl | rfl
  · exact wk8_0_0_1_2_0
  · exact wk8_0_0_1_2_1
  · exact wk8_0_0_1_2_2)
theorem wk8_0_0_1_3_0_0 : wk 8 2 7 4 (aw (aw (aw (aw (aw (aw c0 1 0) 2 0) 3 1) 4 3) 5 0) 6 0) = true := by decide +kernel
theorem wk8_0_0_1_3_0_1 : wk 8 2 7 5 (aw (aw (aw (aw (aw (aw c0 1 0) 2 0) 3 1) 4 3) 5 0) 6 1) = true := by decide +kernel
theorem wk8_0_0_1_3_0_2 : wk 8 2 7 6 (aw (aw (aw (aw (aw (aw c0 1 0) 2 0) 3 1) 4 3) 5 0) 6 2) = true := by decide +kernel
theorem wk8_0_0_1_3_0 : wk 8 3 6 4 (aw (aw (aw (aw (aw c0 1 0) 2 0) 3 1) 4 3) 5 0) = true := wk_c (fun v hv => by
  rcases (by omega : v = 0 ∨ v = 1 ∨ v = 2) with rfl | rfl | rfl
  · exact wk8_0_0_1_3_0_0
  · exact wk8_0_0_1_3_0_1
  · exact wk8_0_0_1_3_0_2)
theorem wk8_0_0_1_3_1_0 : wk 8 2 7 5 (aw (aw (aw (aw (aw (aw c0 1 0) 2 0) 3 1) 4 3) 5 1) 6 0) = true := by decide +kernel
theorem wk8_0_0_1_3_1_1 : wk 8 2 7 6 (aw (aw (aw (aw (aw (aw c0 1 0) 2 0) 3 1) 4 3) 5 1) 6 1) = true := by decide +kernel
theorem wk8_0_0_1_3_1 : wk 8 3 6 5 (aw (aw (aw (aw (aw c0 1 0) 2 0) 3 1) 4 3) 5 1) = true := wk_c (fun v hv => by
  rcases (by omega : v = 0 ∨ v = 1) with rfl | rfl
  · exact wk8_0_0_1_3_1_0
  · exact wk8_0_0_1_3_1_1)
theorem wk8_0_0_1_3 : wk 8 4 5 4 (aw (aw (aw (aw c0 1 0) 2 0) 3 1) 4 3) = true := wk_c (fun v hv => by
  rcases (by omega : v = 0 ∨ v = 1) with rfl | rfl
  · exact wk8_0_0_1_3_0
  · exact wk8_0_0_1_3_1)
theorem wk8_0_0_1 : wk 8 5 4 1 (aw (aw (aw c0 1 0) 2 0) 3 1) = true := wk_c (fun v hv => by
  rcases (by omega : v = 0 ∨ v = 1 ∨ v = 2 ∨ v = 3) with rfl | rfl | rfl | rfl
  · exact wk8_0_0_1_0
  · exact wk8_0_0_1_1
  · exact wk8_0_0_1_2
  · exact wk8_0_0_1_3)
theorem wk8_0_0_2_0_0_0 : wk 8 2 7 2 (aw (aw (aw (aw (aw (aw c0 1 0) 2 0) 3 2) 4 0) 5 0) 6 0) = true := by decide +kernel
theorem wk8_0_0_2_0_0_1 : wk 8 2 7 3 (aw (aw (aw (aw (aw (aw c0 1 0) 2 0) 3 2) 4 0) 5 0) 6 1) = true := by decide +kernel
theorem wk8_0_0_2_0_0_2 : wk 8 2 7 4 (aw (aw (aw (aw (aw (aw c0 1 0) 2 0) 3 2) 4 0) 5 0) 6 2) = true := by decide +kernel
theorem wk8_0_0_2_0_0_3 : wk 8 2 7 5 (aw (aw (aw (aw (aw (aw c0 1 0) 2 0) 3 2) 4 0) 5 0) 6 3) = true := by decide +kernel
theorem wk8_0_0_2_0_0_4 : wk 8 2 7 6 (aw (aw (aw (aw (aw (aw c0 1 0) 2 0) 3 2) 4 0) 5 0) 6 4) = true := by decide +kernel
theorem wk8_0_0_2_0_0 : wk 8 3 6 2 (aw (aw (aw (aw (aw c0 1 0) 2 0) 3 2) 4 0) 5 0) = true := wk_c (fun v hv => by
  rcases (by omega : v = 0 ∨ v = 1 ∨ v = 2 ∨ v = 3 ∨ v = 4) with rfl | rfl | rfl | rfl | rfl
  · exact wk8_0_0_2_0_0_0
  · exact wk8_0_0_2_0_0_1
  · exact wk8_0_0_2_0_0_2
  · exact wk8_0_0_2_0_0_3
  · exact wk8_0_0_2_0_0_4)
theorem wk8_0_0_2_0_1_0 : wk 8 2 7 3 (aw (aw (aw (aw (aw (aw c0 1 0) 2 0) 3 2) 4 0) 5 1) 6 0) = true := by decide +kernel
theorem wk8_0_0_2_0_1_1 : wk 8 2 7 4 (aw (aw (aw (aw (aw (aw c0 1 0) 2 0) 3 2) 4 0) 5 1) 6 1) = true := by decide +kernel
theorem wk8_0_0_2_0_1_2 : wk 8 2 7 5 (aw (aw (aw (aw (aw (aw c0 1 0) 2 0) 3 2) 4 0) 5 1) 6 2) = true := by decide +kernel
theorem wk8_0_0_2_0_1_3 : wk 8 2 7 6 (aw (aw (aw (aw (aw (aw c0 1 0) 2 0) 3 2) 4 0) 5 1) 6 3) = true := by decide +kernel
theorem wk8_0_0_2_0_1 : wk 8 3 6 3 (aw (aw (aw (aw (aw c0 1 0) 2 0) 3 2) 4 0) 5 1) = true := wk_c (fun v hv => by
  rcases (by omega : v = 0 ∨ v = 1 ∨ v = 2 ∨ v = 3) with rfl | rfl | rfl | rfl
  · exact wk8_0_0_2_0_1_0
  · exact wk8_0_0_2_0_1_1
  · exact wk8_0_0_2_0_1_2
  · exact wk8_0_0_2_0_1_3)
theorem wk8_0_0_2_0_2_0 : wk 8 2 7 4 (aw (aw (aw (aw (aw (aw c0 1 0) 2 0) 3 2) 4 0) 5 2) 6 0) = true := by decide +kernel
theorem wk8_0_0_2_0_2_1 : wk 8 2 7 5 (aw (aw (aw (aw (aw (aw c0 1 0) 2 0) 3 2) 4 0) 5 2) 6 1) = true := by decide +kernel
theorem wk8_0_0_2_0_2_2 : wk 8 2 7 6 (aw (aw (aw (aw (aw (aw c0 1 0) 2 0) 3 2) 4 0) 5 2) 6 2) = true := by decide +kernel
theorem wk8_0_0_2_0_2 : wk 8 3 6 4 (aw (aw (aw (aw (aw c0 1 0) 2 0) 3 2) 4 0) 5 2) = true := wk_c (fun v hv => by
  rcases (by omega : v = 0 ∨ v = 1 ∨ v = 2) with rfl | rfl | rfl
  · exact wk8_0_0_2_0_2_0
  · exact wk8_0_0_2_0_2_1
  · exact wk8_0_0_2_0_2_2)
theorem wk8_0_0_2_0_3_0 : wk 8 2 7 5 (aw (aw (aw (aw (aw (aw c0 1 0) 2 0) 3 2) 4 0) 5 3) 6 0) = true := by decide +kernel
theorem wk8_0_0_2_0_3_1 : wk 8 2 7 6 (aw (aw (aw (aw (aw (aw c0 1 0) 2 0) 3 2) 4 0) 5 3) 6 1) = true := by decide +kernel
theorem wk8_0_0_2_0_3 : wk 8 3 6 5 (aw (aw (aw (aw (aw c0 1 0) 2 0) 3 2) 4 0) 5 3) = true := wk_c (fun v hv => by
  rcases (by omega : v = 0 ∨ v = 1) with rfl | rfl
  · exact wk8_0_0_2_0_3_0
  · exact wk8_0_0_2_0_3_1)
theorem wk8_0_0_2_0 : wk 8 4 5 2 (aw (aw (aw (aw c0 1 0) 2 0) 3 2) 4 0) = true := wk_c (fun v hv => by
  rcases (by omega : v = 0 ∨ v = 1 ∨ v = 2 ∨ v = 3) with rfl | rfl | rfl | rfl
  · exact wk8_0_0_2_0_0
  · exact wk8_0_0_2_0_1
  · exact wk8_0_0_2_0_2
  · exact wk8_0_0_2_0_3)
theorem wk8_0_0_2_1_0_0 : wk 8 2 7 3 (aw (aw (aw (aw (aw (aw c0 1 0) 2 0) 3 2) 4 1) 5 0) 6 0) = true := by decide +kernel
theorem wk8_0_0_2_1_0_1 : wk 8 2 7 4 (aw (aw (aw (aw (aw (aw c0 1 0) 2 0) 3 2) 4 1) 5 0) 6 1) = true := by decide +kernel
theorem wk8_0_0_2_1_0_2 : wk 8 2 7 5 (aw (aw (aw (aw (aw (aw c0 1 0) 2 0) 3 2) 4 1) 5 0) 6 2) = true := by decide +kernel
theorem wk8_0_0_2_1_0_3 : wk 8 2 7 6 (aw (aw (aw (aw (aw (aw c0 1 0) 2 0) 3 2) 4 1) 5 0) 6 3) = true := by decide +kernel
theorem wk8_0_0_2_1_0 : wk 8 3 6 3 (aw (aw (aw (aw (aw c0 1 0) 2 0) 3 2) 4 1) 5 0) = true := wk_c (fun v hv => by
  rcases (by omega : v = 0 ∨ v = 1 ∨ v = 2 ∨ v = 3) with rfl | rfl | rfl | rfl
  · exact wk8_0_0_2_1_0_0
  · exact wk8_0_0_2_1_0_1
  · exact wk8_0_0_2_1_0_2
  · exact wk8_0_0_2_1_0_3)
theorem wk8_0_0_2_1_1_0 : wk 8 2 7 4 (aw (aw (aw (aw (aw (aw c0 1 0) 2 0) 3 2) 4 1) 5 1) 6 0) = true := by decide +kernel
theorem wk8_0_0_2_1_1_1 : wk 8 2 7 5 (aw (aw (aw (aw (aw (aw c0 1 0) 2 0) 3 2) 4 1) 5 1) 6 1) = true := by decide +kernel
theorem wk8_0_0_2_1_1_2 : wk 8 2 7 6 (aw (aw (aw (aw (aw (aw c0 1 0) 2 0) 3 2) 4 1) 5 1) 6 2) = true := by decide +kernel
theorem wk8_0_0_2_1_1 : wk 8 3 6 4 (aw (aw (aw (aw (aw c0 1 0) 2 0) 3 2) 4 1) 5 1) = true := wk_c (fun v hv => by
  rcases (by omega : v = 0 ∨ v = 1 ∨ v = 2) with rfl | rfl | rfl
  · exact wk8_0_0_2_1_1_0
  · exact wk8_0_0_2_1_1_1
  · exact wk8_0_0_2_1_1_2)
theorem wk8_0_0_2_1_2_0 : wk 8 2 7 5 (aw (aw (aw (aw (aw (aw c0 1 0) 2 0) 3 2) 4 1) 5 2) 6 0) = true := by decide +kernel
theorem wk8_0_0_2_1_2_1 : wk 8 2 7 6 (aw (aw (aw (aw (aw (aw c0 1 0) 2 0) 3 2) 4 1) 5 2) 6 1) = true := by decide +kernel
theorem wk8_0_0_2_1_2 : wk 8 3 6 5 (aw (aw (aw (aw (aw c0 1 0) 2 0) 3 2) 4 1) 5 2) = true := wk_c (fun v hv => by
  rcases (by omega : v = 0 ∨ v = 1) with rfl | rfl
  · exact wk8_0_0_2_1_2_0
  · exact wk8_0_0_2_1_2_1)
theorem wk8_0_0_2_1 : wk 8 4 5 3 (aw (aw (aw (aw c0 1 0) 2 0) 3 2) 4 1) = true := wk_c (fun v hv => by
  rcases (by omega : v = 0 ∨ v = 1 ∨ v = 2) with rfl | rfl | rfl
  · exact wk8_0_0_2_1_0
  · exact wk8_0_0_2_1_1
  · exact wk8_0_0_2_1_2)
theorem wk8_0_0_2_2_0_0 : wk 8 2 7 4 (aw (aw (aw (aw (aw (aw c0 1 0) 2 0) 3 2) 4 2) 5 0) 6 0) = true := by decide +kernel
theorem wk8_0_0_2_2_0_1 : wk 8 2 7 5 (aw (aw (aw (aw (aw (aw c0 1 0) 2 0) 3 2) 4 2) 5 0) 6 1) = true := by decide +kernel
theorem wk8_0_0_2_2_0_2 : wk 8 2 7 6 (aw (aw (aw (aw (aw (aw c0 1 0) 2 0) 3 2) 4 2) 5 0) 6 2) = true := by decide +kernel
theorem wk8_0_0_2_2_0 : wk 8 3 6 4 (aw (aw (aw (aw (aw c0 1 0) 2 0) 3 2) 4 2) 5 0) = true := wk_c (fun v hv => by
  rcases (by omega : v = 0 ∨ v = 1 ∨ v = 2) with rfl | rfl | rfl
  · exact wk8_0_0_2_2_0_0
  · exact wk8_0_0_2_2_0_1
  · exact wk8_0_0_2_2_0_2)
theorem wk8_0_0_2_2_1_0 : wk 8 2 7 5 (aw (aw (aw (aw (aw (aw c0 1 0) 2 0) 3 2) 4 2) 5 1) 6 0) = true := by decide +kernel
theorem wk8_0_0_2_2_1_1 : wk 8 2 7 6 (aw (aw (aw (aw (aw (aw c0 1 0) 2 0) 3 2) 4 2) 5 1) 6 1) = true := by decide +kernel
theorem wk8_0_0_2_2_1 : wk 8 3 6 5 (aw (aw (aw (aw (aw c0 1 0) 2 0) 3 2) 4 2) 5 1) = true := wk_c (fun v hv => by
  rcases (by omega : v = 0 ∨ v = 1) with rfl | rfl
  · exact wk8_0_0_2_2_1_0
  · exact wk8_0_0_2_2_1_1)
theorem wk8_0_0_2_2 : wk 8 4 5 4 (aw (aw (aw (aw c0 1 0) 2 0) 3 2) 4 2) = true := wk_c (fun v hv => by
  rcases (by omega : v = 0 ∨ v = 1) with rfl | rfl
  · exact wk8_0_0_2_2_0
  · exact wk8_0_0_2_2_1)
theorem wk8_0_0_2 : wk 8 5 4 2 (aw (aw (aw c0 1 0) 2 0) 3 2) = true := wk_c (fun v hv => by
  rcases (by omega : v = 0 ∨ v = 1 ∨ v = 2) with rfl | rfl | rfl
  · exact wk8_0_0_2_0
  · exact wk8_0_0_2_1
  · exact wk8_0_0_2_2)
theorem wk8_0_0_3_0_0_0 : wk 8 2 7 3 (aw (aw (aw (aw (aw (aw c0 1 0) 2 0) 3 3) 4 0) 5 0) 6 0) = true := by decide +kernel
theorem wk8_0_0_3_0_0_1 : wk 8 2 7 4 (aw (aw (aw (aw (aw (aw c0 1 0) 2 0) 3 3) 4 0) 5 0) 6 1) = true := by decide +kernel
theorem wk8_0_0_3_0_0_2 : wk 8 2 7 5 (aw (aw (aw (aw (aw (aw c0 1 0) 2 0) 3 3) 4 0) 5 0) 6 2) = true := by decide +kernel
theorem wk8_0_0_3_0_0_3 : wk 8 2 7 6 (aw (aw (aw (aw (aw (aw c0 1 0) 2 0) 3 3) 4 0) 5 0) 6 3) = true := by decide +kernel
theorem wk8_0_0_3_0_0 : wk 8 3 6 3 (aw (aw (aw (aw (aw c0 1 0) 2 0) 3 3) 4 0) 5 0) = true := wk_c (fun v hv => by
  rcases (by omega : v = 0 ∨ v = 1 ∨ v = 2 ∨ v = 3) with rfl | rfl | rfl | rfl
  · exact wk8_0_0_3_0_0_0
  · exact wk8_0_0_3_0_0_1
  · exact wk8_0_0_3_0_0_2
  · exact wk8_0_0_3_0_0_3)
theorem wk8_0_0_3_0_1_0 : wk 8 2 7 4 (aw (aw (aw (aw (aw (aw c0 1 0) 2 0) 3 3) 4 0) 5 1) 6 0) = true := by decide +kernel
theorem wk8_0_0_3_0_1_1 : wk 8 2 7 5 (aw (aw (aw (aw (aw (aw c0 1 0) 2 0) 3 3) 4 0) 5 1) 6 1) = true := by decide +kernel
theorem wk8_0_0_3_0_1_2 : wk 8 2 7 6 (aw (aw (aw (aw (aw (aw c0 1 0) 2 0) 3 3) 4 0) 5 1) 6 2) = true := by decide +kernel
theorem wk8_0_0_3_0_1 : wk 8 3 6 4 (aw (aw (aw (aw (aw c0 1 0) 2 0) 3 3) 4 0) 5 1) = true := wk_c (fun v hv => by
  rcases (by omega : v = 0 ∨ v = 1 ∨ v = 2) with rfl | rfl | rfl
  · exact wk8_0_0_3_0_1_0
  · exact wk8_0_0_3_0_1_1
  · exact wk8_0_0_3_0_1_2)
theorem wk8_0_0_3_0_2_0 : wk 8 2 7 5 (aw (aw (aw (aw (aw (aw c0 1 0) 2 0) 3 3) 4 0) 5 2) 6 0) = true := by decide +kernel
theorem wk8_0_0_3_0_2_1 : wk 8 2 7 6 (aw (aw (aw (aw (aw (aw c0 1 0) 2 0) 3 3) 4 0) 5 2) 6 1) = true := by decide +kernel
theorem wk8_0_0_3_0_2 : wk 8 3 6 5 (aw (aw (aw (aw (aw c0 1 0) 2 0) 3 3) 4 0) 5 2) = true := wk_c (fun v hv => by
  rcases (by omega : v = 0 ∨ v = 1) with rfl | rfl
  · exact wk8_0_0_3_0_2_0
  · exact wk8_0_0_3_0_2_1)
theorem wk8_0_0_3_0 : wk 8 4 5 3 (aw (aw (aw (aw c0 1 0) 2 0) 3 3) 4 0) = true := wk_c (fun v hv => by
  rcases (by omega : v = 0 ∨ v = 1 ∨ v = 2) with rfl | rfl | rfl
  · exact wk8_0_0_3_0_0
  · exact wk8_0_0_3_0_1
  · exact wk8_0_0_3_0_2)
theorem wk8_0_0_3_1_0_0 : wk 8 2 7 4 (aw (aw (aw (aw (aw (aw c0 1 0) 2 0) 3 3) 4 1) 5 0) 6 0) = true := by decide +kernel
theorem wk8_0_0_3_1_0_1 : wk 8 2 7 5 (aw (aw (aw (aw (aw (aw c0 1 0) 2 0) 3 3) 4 1) 5 0) 6 1) = true := by decide +kernel
theorem wk8_0_0_3_1_0_2 : wk 8 2 7 6 (aw (aw (aw (aw (aw (aw c0 1 0) 2 0) 3 3) 4 1) 5 0) 6 2) = true := by decide +kernel
theorem wk8_0_0_3_1_0 : wk 8 3 6 4 (aw (aw (aw (aw (aw c0 1 0) 2 0) 3 3) 4 1) 5 0) = true := wk_c (fun v hv => by
  rcases (by omega : v = 0 ∨ v = 1 ∨ v = 2) with rfl | rfl | rfl
  · exact wk8_0_0_3_1_0_0
  · exact wk8_0_0_3_1_0_1
  · exact wk8_0_0_3_1_0_2)
theorem wk8_0_0_3_1_1_0 : wk 8 2 7 5 (aw (aw (aw (aw (aw (aw c0 1 0) 2 0) 3 3) 4 1) 5 1) 6 0) = true := by decide +kernel
theorem wk8_0_0_3_1_1_1 : wk 8 2 7 6 (aw (aw (aw (aw (aw (aw c0 1 0) 2 0) 3 3) 4 1) 5 1) 6 1) = true := by decide +kernel
theorem wk8_0_0_3_1_1 : wk 8 3 6 5 (aw (aw (aw (aw (aw c0 1 0) 2 0) 3 3) 4 1) 5 1) = true := wk_c (fun v hv => by
  rcases (by omega : v = 0 ∨ v = 1) with rfl | rfl
  · exact wk8_0_0_3_1_1_0
  · exact wk8_0_0_3_1_1_1)
theorem wk8_0_0_3_1 : wk 8 4 5 4 (aw (aw (aw (aw c0 1 0) 2 0) 3 3) 4 1) = true := wk_c (fun v hv => by
  rcases (by omega : v = 0 ∨ v = 1) with rfl | rfl
  · exact wk8_0_0_3_1_0
  · exact wk8_0_0_3_1_1)
theorem wk8_0_0_3 : wk 8 5 4 3 (aw (aw (aw c0 1 0) 2 0) 3 3) = true := wk_c (fun v hv => by
  rcases (by omega : v = 0 ∨ v = 1) with rfl | rfl
  · exact wk8_0_0_3_0
  · exact wk8_0_0_3_1)
theorem wk8_0_0 : wk 8 6 3 0 (aw (aw c0 1 0) 2 0) = true := wk_c (fun v hv => by
  rcases (by omega : v = 0 ∨ v = 1 ∨ v = 2 ∨ v = 3) with rfl | rfl | rfl | rfl
  · exact wk8_0_0_0
  · exact wk8_0_0_1
  · exact wk8_0_0_2
  · exact wk8_0_0_3)
theorem wk8_0_1_0_0_0_0 : wk 8 2 7 1 (aw (aw (aw (aw (aw (aw c0 1 0) 2 1) 3 0) 4 0) 5 0) 6 0) = true := by decide +kernel
theorem wk8_0_1_0_0_0_1 : wk 8 2 7 2 (aw (aw (aw (aw (aw (aw c0 1 0) 2 1) 3 0) 4 0) 5 0) 6 1) = true := by decide +kernel
theorem wk8_0_1_0_0_0_2 : wk 8 2 7 3 (aw (aw (aw (aw (aw (aw c0 1 0) 2 1) 3 0) 4 0) 5 0) 6 2) = true := by decide +kernel
theorem wk8_0_1_0_0_0_3 : wk 8 2 7 4 (aw (aw (aw (aw (aw (aw c0 1 0) 2 1) 3 0) 4 0) 5 0) 6 3) = true := by decide +kernel
theorem wk8_0_1_0_0_0_4 : wk 8 2 7 5 (aw (aw (aw (aw (aw (aw c0 1 0) 2 1) 3 0) 4 0) 5 0) 6 4) = true := by decide +kernel
theorem wk8_0_1_0_0_0_5 : wk 8 2 7 6 (aw (aw (aw (aw (aw (aw c0 1 0) 2 1) 3 0) 4 0) 5 0) 6 5) = true := by decide +kernel
theorem wk8_0_1_0_0_0 : wk 8 3 6 1 (aw (aw (aw (aw (aw c0 1 0) 2 1) 3 0) 4 0) 5 0) = true := wk_c (fun v hv => by
  rcases (by omega : v = 0 ∨ v = 1 ∨ v = 2 ∨ v = 3 ∨ v = 4 ∨ v = 5) with rfl | rfl | rfl | rfl | rfl | rfl
  · exact wk8_0_1_0_0_0_0
  · exact wk8_0_1_0_0_0_1
  · exact wk8_0_1_0_0_0_2
  · exact wk8_0_1_0_0_0_3
  · exact wk8_0_1_0_0_0_4
  · exact wk8_0_1_0_0_0_5)
theorem wk8_0_1_0_0_1_0 : wk 8 2 7 2 (aw (aw (aw (aw (aw (aw c0 1 0) 2 1) 3 0) 4 0) 5 1) 6 0) = true := by decide +kernel
theorem wk8_0_1_0_0_1_1 : wk 8 2 7 3 (aw (aw (aw (aw (aw (aw c0 1 0) 2 1) 3 0) 4 0) 5 1) 6 1) = true := by decide +kernel
theorem wk8_0_1_0_0_1_2 : wk 8 2 7 4 (aw (aw (aw (aw (aw (aw c0 1 0) 2 1) 3 0) 4 0) 5 1) 6 2) = true := by decide +kernel
theorem wk8_0_1_0_0_1_3 : wk 8 2 7 5 (aw (aw (aw (aw (aw (aw c0 1 0) 2 1) 3 0) 4 0) 5 1) 6 3) = true := by decide +kernel
theorem wk8_0_1_0_0_1_4 : wk 8 2 7 6 (aw (aw (aw (aw (aw (aw c0 1 0) 2 1) 3 0) 4 0) 5 1) 6 4) = true := by decide +kernel
theorem wk8_0_1_0_0_1 : wk 8 3 6 2 (aw (aw (aw (aw (aw c0 1 0) 2 1) 3 0) 4 0) 5 1) = true := wk_c (fun v hv => by
  rcases (by omega : v = 0 ∨ v = 1 ∨ v = 2 ∨ v = 3 ∨ v = 4) with rfl | rfl | rfl | rfl | rfl
  · exact wk8_0_1_0_0_1_0
  · exact wk8_0_1_0_0_1_1
  · exact wk8_0_1_0_0_1_2
  · exact wk8_0_1_0_0_1_3
  · exact wk8_0_1_0_0_1_4)
theorem wk8_0_1_0_0_2_0 : wk 8 2 7 3 (aw (aw (aw (aw (aw (aw c0 1 0) 2 1) 3 0) 4 0) 5 2) 6 0) = true := by decide +kernel
theorem wk8_0_1_0_0_2_1 : wk 8 2 7 4 (aw (aw (aw (aw (aw (aw c0 1 0) 2 1) 3 0) 4 0) 5 2) 6 1) = true := by decide +kernel
theorem wk8_0_1_0_0_2_2 : wk 8 2 7 5 (aw (aw (aw (aw (aw (aw c0 1 0) 2 1) 3 0) 4 0) 5 2) 6 2) = true := by decide +kernel
theorem wk8_0_1_0_0_2_3 : wk 8 2 7 6 (aw (aw (aw (aw (aw (aw c0 1 0) 2 1) 3 0) 4 0) 5 2) 6 3) = true := by decide +kernel
theorem wk8_0_1_0_0_2 : wk 8 3 6 3 (aw (aw (aw (aw (aw c0 1 0) 2 1) 3 0) 4 0) 5 2) = true := wk_c (fun v hv => by
  rcases (by omega : v = 0 ∨ v = 1 ∨ v = 2 ∨ v = 3) with rfl | rfl | rfl | rfl
  · exact wk8_0_1_0_0_2_0
  · exact wk8_0_1_0_0_2_1
  · exact wk8_0_1_0_0_2_2
  · exact wk8_0_1_0_0_2_3)
theorem wk8_0_1_0_0_3_0 : wk 8 2 7 4 (aw (aw (aw (aw (aw (aw c0 1 0) 2 1) 3 0) 4 0) 5 3) 6 0) = true := by decide +kernel
theorem wk8_0_1_0_0_3_1 : wk 8 2 7 5 (aw (aw (aw (aw (aw (aw c0 1 0) 2 1) 3 0) 4 0) 5 3) 6 1) = true := by decide +kernel
theorem wk8_0_1_0_0_3_2 : wk 8 2 7 6 (aw (aw (aw (aw (aw (aw c0 1 0) 2 1) 3 0) 4 0) 5 3) 6 2) = true := by decide +kernel
theorem wk8_0_1_0_0_3 : wk 8 3 6 4 (aw (aw (aw (aw (aw c0 1 0) 2 1) 3 0) 4 0) 5 3) = true := wk_c (fun v hv => by
  rcases (by omega : v = 0 ∨ v = 1 ∨ v = 2) with rfl | rfl | rfl
  · exact wk8_0_1_0_0_3_0
  · exact wk8_0_1_0_0_3_1
  · exact wk8_0_1_0_0_3_2)
theorem wk8_0_1_0_0_4_0 : wk 8 2 7 5 (aw (aw (aw (aw (aw (aw c0 1 0) 2 1) 3 0) 4 0) 5 4) 6 0) = true := by decide +kernel
theorem wk8_0_1_0_0_4_1 : wk 8 2 7 6 (aw (aw (aw (aw (aw (aw c0 1 0) 2 1) 3 0) 4 0) 5 4) 6 1) = true := by decide +kernel
theorem wk8_0_1_0_0_4 : wk 8 3 6 5 (aw (aw (aw (aw (aw c0 1 0) 2 1) 3 0) 4 0) 5 4) = true := wk_c (fun v hv => by
  rcases (by omega : v = 0 ∨ v = 1) with rfl | rfl
  · exact wk8_0_1_0_0_4_0
  · exact wk8_0_1_0_0_4_1)
theorem wk8_0_1_0_0 : wk 8 4 5 1 (aw (aw (aw (aw c0 1 0) 2 1) 3 0) 4 0) = true := wk_c (fun v hv => by
  rcases (by omega : v = 0 ∨ v = 1 ∨ v = 2 ∨ v = 3 ∨ v = 4) with rfl | rfl | rfl | rfl | rfl
  · exact wk8_0_1_0_0_0
  · exact wk8_0_1_0_0_1
  · exact wk8_0_1_0_0_2
  · exact wk8_0_1_0_0_3
  · exact wk8_0_1_0_0_4)
theorem wk8_0_1_0_1_0_0 : wk 8 2 7 2 (aw (aw (aw (aw (aw (aw c0 1 0) 2 1) 3 0) 4 1) 5 0) 6 0) = true := by decide +kernel
theorem wk8_0_1_0_1_0_1 : wk 8 2 7 3 (aw (aw (aw (aw (aw (aw c0 1 0) 2 1) 3 0) 4 1) 5 0) 6 1) = true := by decide +kernel
theorem wk8_0_1_0_1_0_2 : wk 8 2 7 4 (aw (aw (aw (aw (aw (aw c0 1 0) 2 1) 3 0) 4 1) 5 0) 6 2) = true := by decide +kernel
theorem wk8_0_1_0_1_0_3 : wk 8 2 7 5 (aw (aw (aw (aw (aw (aw c0 1 0) 2 1) 3 0) 4 1) 5 0) 6 3) = true := by decide +kernel
theorem wk8_0_1_0_1_0_4 : wk 8 2 7 6 (aw (aw (aw (aw (aw (aw c0 1 0) 2 1) 3 0) 4 1) 5 0) 6 4) = true := by decide +kernel
theorem wk8_0_1_0_1_0 : wk 8 3 6 2 (aw (aw (aw (aw (aw c0 1 0) 2 1) 3 0) 4 1) 5 0) = true := wk_c (fun v hv => by
  rcases (by omega : v = 0 ∨ v = 1 ∨ v = 2 ∨ v = 3 ∨ v = 4) with rfl | rfl | rfl | rfl | rfl
  · exact wk8_0_1_0_1_0_0
  · exact wk8_0_1_0_1_0_1
  · exact wk8_0_1_0_1_0_2
  · exact wk8_0_1_0_1_0_3
  · exact wk8_0_1_0_1_0_4)
theorem wk8_0_1_0_1_1_0 : wk 8 2 7 3 (aw (aw (aw (aw (aw (aw c0 1 0) 2 1) 3 0) 4 1) 5 1) 6 0) = true := by decide +kernel
theorem wk8_0_1_0_1_1_1 : wk 8 2 7 4 (aw (aw (aw (aw (aw (aw c0 1 0) 2 1) 3 0) 4 1) 5 1) 6 1) = true := by decide +kernel
theorem wk8_0_1_0_1_1_2 : wk 8 2 7 5 (aw (aw (aw (aw (aw (aw c0 1 0) 2 1) 3 0) 4 1) 5 1) 6 2) = true := by decide +kernel
theorem wk8_0_1_0_1_1_3 : wk 8 2 7 6 (aw (aw (aw (aw (aw (aw c0 1 0) 2 1) 3 0) 4 1) 5 1) 6 3) = true := by decide +kernel
theorem wk8_0_1_0_1_1 : wk 8 3 6 3 (aw (aw (aw (aw (aw c0 1 0) 2 1) 3 0) 4 1) 5 1) = true := wk_c (fun v hv => by
  rcases (by omega : v = 0 ∨ v = 1 ∨ v = 2 ∨ v = 3) with rfl | rfl | rfl | rfl
  · exact wk8_0_1_0_1_1_0
  · exact wk8_0_1_0_1_1_1
  · exact wk8_0_1_0_1_1_2
  · exact wk8_0_1_0_1_1_3)
theorem wk8_0_1_0_1_2_0 : wk 8 2 7 4 (aw (aw (aw (aw (aw (aw c0 1 0) 2 1) 3 0) 4 1) 5 2) 6 0) = true := by decide +kernel
theorem wk8_0_1_0_1_2_1 : wk 8 2 7 5 (aw (aw (aw (aw (aw (aw c0 1 0) 2 1) 3 0) 4 1) 5 2) 6 1) = true := by decide +kernel
theorem wk8_0_1_0_1_2_2 : wk 8 2 7 6 (aw (aw (aw (aw (aw (aw c0 1 0) 2 1) 3 0) 4 1) 5 2) 6 2) = true := by decide +kernel
theorem wk8_0_1_0_1_2 : wk 8 3 6 4 (aw (aw (aw (aw (aw c0 1 0) 2 1) 3 0) 4 1) 5 2) = true := wk_c (fun v hv => by
  rcases (by omega : v = 0 ∨ v = 1 ∨ v = 2) with rfl | rfl | rfl
  · exact wk8_0_1_0_1_2_0
  · exact wk8_0_1_0_1_2_1
  · exact wk8_0_1_0_1_2_2)
theorem wk8_0_1_0_1_3_0 : wk 8 2 7 5 (aw (aw (aw (aw (aw (aw c0 1 0) 2 1) 3 0) 4 1) 5 3) 6 0) = true := by decide +kernel
theorem wk8_0_1_0_1_3_1 : wk 8 2 7 6 (aw (aw (aw (aw (aw (aw c0 1 0) 2 1) 3 0) 4 1) 5 3) 6 1) = true := by decide +kernel
theorem wk8_0_1_0_1_3 : wk 8 3 6 5 (aw (aw (aw (aw (aw c0 1 0) 2 1) 3 0) 4 1) 5 3) = true := wk_c (fun v hv => by
  rcases (by omega : v = 0 ∨ v = 1) with rfl | rfl
  · exact wk8_0_1_0_1_3_0
  · exact wk8_0_1_0_1_3_1)
theorem wk8_0_1_0_1 : wk 8 4 5 2 (aw (aw (aw (aw c0 1 0) 2 1) 3 0) 4 1) = true := wk_c (fun v hv => by
  rcases (by omega : v = 0 ∨ v = 1 ∨ v = 2 ∨ v = 3) with rfl | rfl | rfl | rfl
  · exact wk8_0_1_0_1_0
  · exact wk8_0_1_0_1_1
  · exact wk8_0_1_0_1_2
  · exact wk8_0_1_0_1_3)
theorem wk8_0_1_0_2_0_0 : wk 8 2 7 3 (aw (aw (aw (aw (aw (aw c0 1 0) 2 1) 3 0) 4 2) 5 0) 6 0) = true := by decide +kernel
theorem wk8_0_1_0_2_0_1 : wk 8 2 7 4 (aw (aw (aw (aw (aw (aw c0 1 0) 2 1) 3 0) 4 2) 5 0) 6 1) = true := by decide +kernel
theorem wk8_0_1_0_2_0_2 : wk 8 2 7 5 (aw (aw (aw (aw (aw (aw c0 1 0) 2 1) 3 0) 4 2) 5 0) 6 2) = true := by decide +kernel
theorem wk8_0_1_0_2_0_3 : wk 8 2 7 6 (aw (aw (aw (aw (aw (aw c0 1 0) 2 1) 3 0) 4 2) 5 0) 6 3) = true := by decide +kernel
theorem wk8_0_1_0_2_0 : wk 8 3 6 3 (aw (aw (aw (aw (aw c0 1 0) 2 1) 3 0) 4 2) 5 0) = true := wk_c (fun v hv => by
  rcases (by omega : v = 0 ∨ v = 1 ∨ v = 2 ∨ v = 3) with rfl | rfl | rfl | rfl
  · exact wk8_0_1_0_2_0_0
  · exact wk8_0_1_0_2_0_1
  · exact wk8_0_1_0_2_0_2
  · exact wk8_0_1_0_2_0_3)
theorem wk8_0_1_0_2_1_0 : wk 8 2 7 4 (aw (aw (aw (aw (aw (aw c0 1 0) 2 1) 3 0) 4 2) 5 1) 6 0) = true := by decide +kernel
theorem wk8_0_1_0_2_1_1 : wk 8 2 7 5 (aw (aw (aw (aw (aw (aw c0 1 0) 2 1) 3 0) 4 2) 5 1) 6 1) = true := by decide +kernel
theorem wk8_0_1_0_2_1_2 : wk 8 2 7 6 (aw (aw (aw (aw (aw (aw c0 1 0) 2 1) 3 0) 4 2) 5 1) 6 2) = true := by decide +kernel
theorem wk8_0_1_0_2_1 : wk 8 3 6 4 (aw (aw (aw (aw (aw c0 1 0) 2 1) 3 0) 4 2) 5 1) = true := wk_c (fun v hv => by
  rcases (by omega : v = 0 ∨ v = 1 ∨ v = 2) with rfl | rfl | rfl
  · exact wk8_0_1_0_2_1_0
  · exact wk8_0_1_0_2_1_1
  · exact wk8_0_1_0_2_1_2)
theorem wk8_0_1_0_2_2_0 : wk 8 2 7 5 (aw (aw (aw (aw (aw (aw c0 1 0) 2 1) 3 0) 4 2) 5 2) 6 0) = true := by decide +kernel
theorem wk8_0_1_0_2_2_1 : wk 8 2 7 6 (aw (aw (aw (aw (aw (aw c0 1 0) 2 1) 3 0) 4 2) 5 2) 6 1) = true := by decide +kernel
theorem wk8_0_1_0_2_2 : wk 8 3 6 5 (aw (aw (aw (aw (aw c0 1 0) 2 1) 3 0) 4 2) 5 2) = true := wk_c (fun v hv => by
  rcases (by omega : v = 0 ∨ v = 1) with rfl | rfl
  · exact wk8_0_1_0_2_2_0
  · exact wk8_0_1_0_2_2_1)
theorem wk8_0_1_0_2 : wk 8 4 5 3 (aw (aw (aw (aw c0 1 0) 2 1) 3 0) 4 2) = true := wk_c (fun v hv => by
  rcases (by omega : v = 0 ∨ v = 1 ∨ v = 2) with rfl | rfl | rfl
  · exact wk8_0_1_0_2_0
  · exact wk8_0_1_0_2_1
  · exact wk8_0_1_0_2_2)
theorem wk8_0_1_0_3_0_0 : wk 8 2 7 4 (aw (aw (aw (aw (aw (aw c0 1 0) 2 1) 3 0) 4 3) 5 0) 6 0) = true := by decide +kernel
theorem wk8_0_1_0_3_0_1 : wk 8 2 7 5 (aw (aw (aw (aw (aw (aw c0 1 0) 2 1) 3 0) 4 3) 5 0) 6 1) = true := by decide +kernel
theorem wk8_0_1_0_3_0_2 : wk 8 2 7 6 (aw (aw (aw (aw (aw (aw c0 1 0) 2 1) 3 0) 4 3) 5 0) 6 2) = true := by decide +kernel
theorem wk8_0_1_0_3_0 : wk 8 3 6 4 (aw (aw (aw (aw (aw c0 1 0) 2 1) 3 0) 4 3) 5 0) = true := wk_c (fun v hv => by
  rcases (by omega : v = 0 ∨ v = 1 ∨ v = 2) with rfl | rfl | rfl
  · exact wk8_0_1_0_3_0_0
  · exact wk8_0_1_0_3_0_1
  · exact wk8_0_1_0_3_0_2)
theorem wk8_0_1_0_3_1_0 : wk 8 2 7 5 (aw (aw (aw (aw (aw (aw c0 1 0) 2 1) 3 0) 4 3) 5 1) 6 0) = true := by decide +kernel
theorem wk8_0_1_0_3_1_1 : wk 8 2 7 6 (aw (aw (aw (aw (aw (aw c0 1 0) 2 1) 3 0) 4 3) 5 1) 6 1) = true := by decide +kernel
theorem wk8_0_1_0_3_1 : wk 8 3 6 5 (aw (aw (aw (aw (aw c0 1 0) 2 1) 3 0) 4 3) 5 1) = true := wk_c (fun v hv => by
  rcases (by omega : v = 0 ∨ v = 1) with rfl | rfl
  · exact wk8_0_1_0_3_1_0
  · exact wk8_0_1_0_3_1_1)
theorem wk8_0_1_0_3 : wk 8 4 5 4 (aw (aw (aw (aw c0 1 0) 2 1) 3 0) 4 3) = true := wk_c (fun v hv => by
  rcases (by omega : v = 0 ∨ v = 1) with rfl | rfl
  · exact wk8_0_1_0_3_0
  · exact wk8_0_1_0_3_1)
theorem wk8_0_1_0 : wk 8 5 4 1 (aw (aw (aw c0 1 0) 2 1) 3 0) = true := wk_c (fun v hv => by
  rcases (by omega : v = 0 ∨ v = 1 ∨ v = 2 ∨ v = 3) with rfl | rfl | rfl | rfl
  · exact wk8_0_1_0_0
  · exact wk8_0_1_0_1
  · exact wk8_0_1_0_2
  · exact wk8_0_1_0_3)
theorem wk8_0_1_1_0_0_0 : wk 8 2 7 2 (aw (aw (aw (aw (aw (aw c0 1 0) 2 1) 3 1) 4 0) 5 0) 6 0) = true := by decide +kernel
theorem wk8_0_1_1_0_0_1 : wk 8 2 7 3 (aw (aw (aw (aw (aw (aw c0 1 0) 2 1) 3 1) 4 0) 5 0) 6 1) = true := by decide +kernel
theorem wk8_0_1_1_0_0_2 : wk 8 2 7 4 (aw (aw (aw (aw (aw (aw c0 1 0) 2 1) 3 1) 4 0) 5 0) 6 2) = true := by decide +kernel
theorem wk8_0_1_1_0_0_3 : wk 8 2 7 5 (aw (aw (aw (aw (aw (aw c0 1 0) 2 1) 3 1) 4 0) 5 0) 6 3) = true := by decide +kernel
theorem wk8_0_1_1_0_0_4 : wk 8 2 7 6 (aw (aw (aw (aw (aw (aw c0 1 0) 2 1) 3 1) 4 0) 5 0) 6 4) = true := by decide +kernel
theorem wk8_0_1_1_0_0 : wk 8 3 6 2 (aw (aw (aw (aw (aw c0 1 0) 2 1) 3 1) 4 0) 5 0) = true := wk_c (fun v hv => by
  rcases (by omega : v = 0 ∨ v = 1 ∨ v = 2 ∨ v = 3 ∨ v = 4) with rfl | rfl | rfl | rfl | rfl
  · exact wk8_0_1_1_0_0_0
  · exact wk8_0_1_1_0_0_1
  · exact wk8_0_1_1_0_0_2
  · exact wk8_0_1_1_0_0_3
  · exact wk8_0_1_1_0_0_4)
theorem wk8_0_1_1_0_1_0 : wk 8 2 7 3 (aw (aw (aw (aw (aw (aw c0 1 0) 2 1) 3 1) 4 0) 5 1) 6 0) = true := by decide +kernel
theorem wk8_0_1_1_0_1_1 : wk 8 2 7 4 (aw (aw (aw (aw (aw (aw c0 1 0) 2 1) 3 1) 4 0) 5 1) 6 1) = true := by decide +kernel
theorem wk8_0_1_1_0_1_2 : wk 8 2 7 5 (aw (aw (aw (aw (aw (aw c0 1 0) 2 1) 3 1) 4 0) 5 1) 6 2) = true := by decide +kernel
theorem wk8_0_1_1_0_1_3 : wk 8 2 7 6 (aw (aw (aw (aw (aw (aw c0 1 0) 2 1) 3 1) 4 0) 5 1) 6 3) = true := by decide +kernel
theorem wk8_0_1_1_0_1 : wk 8 3 6 3 (aw (aw (aw (aw (aw c0 1 0) 2 1) 3 1) 4 0) 5 1) = true := wk_c (fun v hv => by
  rcases (by omega : v = 0 ∨ v = 1 ∨ v = 2 ∨ v = 3) with rfl | rfl | rfl | rfl
  · exact wk8_0_1_1_0_1_0
  · exact wk8_0_1_1_0_1_1
  · exact wk8_0_1_1_0_1_2
  · exact wk8_0_1_1_0_1_3)
theorem wk8_0_1_1_0_2_0 : wk 8 2 7 4 (aw (aw (aw (aw (aw (aw c0 1 0) 2 1) 3 1) 4 0) 5 2) 6 0) = true := by decide +kernel
theorem wk8_0_1_1_0_2_1 : wk 8 2 7 5 (aw (aw (aw (aw (aw (aw c0 1 0) 2 1) 3 1) 4 0) 5 2) 6 1) = true := by decide +kernel
theorem wk8_0_1_1_0_2_2 : wk 8 2 7 6 (aw (aw (aw (aw (aw (aw c0 1 0) 2 1) 3 1) 4 0) 5 2) 6 2) = true := by decide +kernel
theorem wk8_0_1_1_0_2 : wk 8 3 6 4 (aw (aw (aw (aw (aw c0 1 0) 2 1) 3 1) 4 0) 5 2) = true := wk_c (fun v hv => by
  rcases (by omega : v = 0 ∨ v = 1 ∨ v = 2) with rfl | rfl | rfl
  · exact wk8_0_1_1_0_2_0
  · exact wk8_0_1_1_0_2_1
  · exact wk8_0_1_1_0_2_2)
theorem wk8_0_1_1_0_3_0 : wk 8 2 7 5 (aw (aw (aw (aw (aw (aw c0 1 0) 2 1) 3 1) 4 0) 5 3) 6 0) = true := by decide +kernel
theorem wk8_0_1_1_0_3_1 : wk 8 2 7 6 (aw (aw (aw (aw (aw (aw c0 1 0) 2 1) 3 1) 4 0) 5 3) 6 1) = true := by decide +kernel
theorem wk8_0_1_1_0_3 : wk 8 3 6 5 (aw (aw (aw (aw (aw c0 1 0) 2 1) 3 1) 4 0) 5 3) = true := wk_c (fun v hv => by
  rcases (by omega : v = 0 ∨ v = 1) with rfl | rfl
  · exact wk8_0_1_1_0_3_0
  · exact wk8_0_1_1_0_3_1)
theorem wk8_0_1_1_0 : wk 8 4 5 2 (aw (aw (aw (aw c0 1 0) 2 1) 3 1) 4 0) = true := wk_c (fun v hv => by
  rcases (by omega : v = 0 ∨ v = 1 ∨ v = 2 ∨ v = 3) with rfl | rfl | rfl | rfl
  · exact wk8_0_1_1_0_0
  · exact wk8_0_1_1_0_1
  · exact wk8_0_1_1_0_2
  · exact wk8_0_1_1_0_3)
theorem wk8_0_1_1_1_0_0 : wk 8 2 7 3 (aw (aw (aw (aw (aw (aw c0 1 0) 2 1) 3 1) 4 1) 5 0) 6 0) = true := by decide +kernel
theorem wk8_0_1_1_1_0_1 : wk 8 2 7 4 (aw (aw (aw (aw (aw (aw c0 1 0) 2 1) 3 1) 4 1) 5 0) 6 1) = true := by decide +kernel
theorem wk8_0_1_1_1_0_2 : wk 8 2 7 5 (aw (aw (aw (aw (aw (aw c0 1 0) 2 1) 3 1) 4 1) 5 0) 6 2) = true := by decide +kernel
theorem wk8_0_1_1_1_0_3 : wk 8 2 7 6 (aw (aw (aw (aw (aw (aw c0 1 0) 2 1) 3 1) 4 1) 5 0) 6 3) = true := by decide +kernel
theorem wk8_0_1_1_1_0 : wk 8 3 6 3 (aw (aw (aw (aw (aw c0 1 0) 2 1) 3 1) 4 1) 5 0) = true := wk_c (fun v hv => by
  rcases (by omega : v = 0 ∨ v = 1 ∨ v = 2 ∨ v = 3) with rfl | rfl | rfl | rfl
  · exact wk8_0_1_1_1_0_0
  · exact wk8_0_1_1_1_0_1
  · exact wk8_0_1_1_1_0_2
  · exact wk8_0_1_1_1_0_3)
theorem wk8_0_1_1_1_1_0 : wk 8 2 7 4 (aw (aw (aw (aw (aw (aw c0 1 0) 2 1) 3 1) 4 1) 5 1) 6 0) = true := by decide +kernel
theorem wk8_0_1_1_1_1_1 : wk 8 2 7 5 (aw (aw (aw (aw (aw (aw c0 1 0) 2 1) 3 1) 4 1) 5 1) 6 1) = true := by decide +kernel
theorem wk8_0_1_1_1_1_2 : wk 8 2 7 6 (aw (aw (aw (aw (aw (aw c0 1 0) 2 1) 3 1) 4 1) 5 1) 6 2) = true := by decide +kernel
theorem wk8_0_1_1_1_1 : wk 8 3 6 4 (aw (aw (aw (aw (aw c0 1 0) 2 1) 3 1) 4 1) 5 1) = true := wk_c (fun v hv => by
  rcases (by omega : v = 0 ∨ v = 1 ∨ v = 2) with rfl | rfl | rfl
  · exact wk8_0_1_1_1_1_0
  · exact wk8_0_1_1_1_1_1
  · exact wk8_0_1_1_1_1_2)
theorem wk8_0_1_1_1_2_0 : wk 8 2 7 5 (aw (aw (aw (aw (aw (aw c0 1 0) 2 1) 3 1) 4 1) 5 2) 6 0) = true := by decide +kernel
theorem wk8_0_1_1_1_2_1 : wk 8 2 7 6 (aw (aw (aw (aw (aw (aw c0 1 0) 2 1) 3 1) 4 1) 5 2) 6 1) = true := by decide +kernel
theorem wk8_0_1_1_1_2 : wk 8 3 6 5 (aw (aw (aw (aw (aw c0 1 0) 2 1) 3 1) 4 1) 5 2) = true := wk_c (fun v hv => by
  rcases (by omega : v = 0 ∨ v = 1) with rfl | rfl
  · exact wk8_0_1_1_1_2_0
  · exact wk8_0_1_1_1_2_1)
theorem wk8_0_1_1_1 : wk 8 4 5 3 (aw (aw (aw (aw c0 1 0) 2 1) 3 1) 4 1) = true := wk_c (fun v hv => by
  rcases (by omega : v = 0 ∨ v = 1 ∨ v = 2) with rfl | rfl | rfl
  · exact wk8_0_1_1_1_0
  · exact wk8_0_1_1_1_1
  · exact wk8_0_1_1_1_2)
theorem wk8_0_1_1_2_0_0 : wk 8 2 7 4 (aw (aw (aw (aw (aw (aw c0 1 0) 2 1) 3 1) 4 2) 5 0) 6 0) = true := by decide +kernel
theorem wk8_0_1_1_2_0_1 : wk 8 2 7 5 (aw (aw (aw (aw (aw (aw c0 1 0) 2 1) 3 1) 4 2) 5 0) 6 1) = true := by decide +kernel
theorem wk8_0_1_1_2_0_2 : wk 8 2 7 6 (aw (aw (aw (aw (aw (aw c0 1 0) 2 1) 3 1) 4 2) 5 0) 6 2) = true := by decide +kernel
theorem wk8_0_1_1_2_0 : wk 8 3 6 4 (aw (aw (aw (aw (aw c0 1 0) 2 1) 3 1) 4 2) 5 0) = true := wk_c (fun v hv => by
  rcases (by omega : v = 0 ∨ v = 1 ∨ v = 2) with rfl | rfl | rfl
  · exact wk8_0_1_1_2_0_0
  · exact wk8_0_1_1_2_0_1
  · exact wk8_0_1_1_2_0_2)
theorem wk8_0_1_1_2_1_0 : wk 8 2 7 5 (aw (aw (aw (aw (aw (aw c0 1 0) 2 1) 3 1) 4 2) 5 1) 6 0) = true := by decide +kernel
theorem wk8_0_1_1_2_1_1 : wk 8 2 7 6 (aw (aw (aw (aw (aw (aw c0 1 0) 2 1) 3 1) 4 2) 5 1) 6 1) = true := by decide +kernel
theorem wk8_0_1_1_2_1 : wk 8 3 6 5 (aw (aw (aw (aw (aw c0 1 0) 2 1) 3 1) 4 2) 5 1) = true := wk_c (fun v hv => by
  rcases (by omega : v = 0 ∨ v = 1) with rfl | rfl
  · exact wk8_0_1_1_2_1_0
  · exact wk8_0_1_1_2_1_1)
theorem wk8_0_1_1_2 : wk 8 4 5 4 (aw (aw (aw (aw c0 1 0) 2 1) 3 1) 4 2) = true := wk_c (fun v hv => by
  rcases (by omega : v = 0 ∨ v = 1) with rfl | rfl
  · exact wk8_0_1_1_2_0
  · exact wk8_0_1_1_2_1)
theorem wk8_0_1_1 : wk 8 5 4 2 (aw (aw (aw c0 1 0) 2 1) 3 1) = true := wk_c (fun v hv => by
  rcases (by omega : v = 0 ∨ v = 1 ∨ v = 2) with rfl | rfl | rfl
  · exact wk8_0_1_1_0
  · exact wk8_0_1_1_1
  · exact wk8_0_1_1_2)
theorem wk8_0_1_2_0_0_0 : wk 8 2 7 3 (aw (aw (aw (aw (aw (aw c0 1 0) 2 1) 3 2) 4 0) 5 0) 6 0) = true := by decide +kernel
theorem wk8_0_1_2_0_0_1 : wk 8 2 7 4 (aw (aw (aw (aw (aw (aw c0 1 0) 2 1) 3 2) 4 0) 5 0) 6 1) = true := by decide +kernel
theorem wk8_0_1_2_0_0_2 : wk 8 2 7 5 (aw (aw (aw (aw (aw (aw c0 1 0) 2 1) 3 2) 4 0) 5 0) 6 2) = true := by decide +kernel
theorem wk8_0_1_2_0_0_3 : wk 8 2 7 6 (aw (aw (aw (aw (aw (aw c0 1 0) 2 1) 3 2) 4 0) 5 0) 6 3) = true := by decide +kernel
theorem wk8_0_1_2_0_0 : wk 8 3 6 3 (aw (aw (aw (aw (aw c0 1 0) 2 1) 3 2) 4 0) 5 0) = true := wk_c (fun v hv => by
  rcases (by omega : v = 0 ∨ v = 1 ∨ v = 2 ∨ v = 3) with rfl | rfl | rfl | rfl
  · exact wk8_0_1_2_0_0_0
  · exact wk8_0_1_2_0_0_1
  · exact wk8_0_1_2_0_0_2
  · exact wk8_0_1_2_0_0_3)
theorem wk8_0_1_2_0_1_0 : wk 8 2 7 4 (aw (aw (aw (aw (aw (aw c0 1 0) 2 1) 3 2) 4 0) 5 1) 6 0) = true := by decide +kernel
theorem wk8_0_1_2_0_1_1 : wk 8 2 7 5 (aw (aw (aw (aw (aw (aw c0 1 0) 2 1) 3 2) 4 0) 5 1) 6 1) = true := by decide +kernel
theorem wk8_0_1_2_0_1_2 : wk 8 2 7 6 (aw (aw (aw (aw (aw (aw c0 1 0) 2 1) 3 2) 4 0) 5 1) 6 2) = true := by decide +kernel
theorem wk8_0_1_2_0_1 : wk 8 3 6 4 (aw (aw (aw (aw (aw c0 1 0) 2 1) 3 2) 4 0) 5 1) = true := wk_c (fun v hv => by
  rcases (by omega : v = 0 ∨ v = 1 ∨ v = 2) with rfl | rfl | rfl
  · exact wk8_0_1_2_0_1_0
  · exact wk8_0_1_2_0_1_1
  · exact wk8_0_1_2_0_1_2)
theorem wk8_0_1_2_0_2_0 : wk 8 2 7 5 (aw (aw (aw (aw (aw (aw c0 1 0) 2 1) 3 2) 4 0) 5 2) 6 0) = true := by decide +kernel
theorem wk8_0_1_2_0_2_1 : wk 8 2 7 6 (aw (aw (aw (aw (aw (aw c0 1 0) 2 1) 3 2) 4 0) 5 2) 6 1) = true := by decide +kernel
theorem wk8_0_1_2_0_2 : wk 8 3 6 5 (aw (aw (aw (aw (aw c0 1 0) 2 1) 3 2) 4 0) 5 2) = true := wk_c (fun v hv => by
  rcases (by omega : v = 0 ∨ v = 1) with rfl | rfl
  · exact wk8_0_1_2_0_2_0
  · exact wk8_0_1_2_0_2_1)
theorem wk8_0_1_2_0 : wk 8 4 5 3 (aw (aw (aw (aw c0 1 0) 2 1) 3 2) 4 0) = true := wk_c (fun v hv => by
  rcases (by omega : v = 0 ∨ v = 1 ∨ v = 2) with rfl | rfl | rfl
  · exact wk8_0_1_2_0_0
  · exact wk8_0_1_2_0_1
  · exact wk8_0_1_2_0_2)
theorem wk8_0_1_2_1_0_0 : wk 8 2 7 4 (aw (aw (aw (aw (aw (aw c0 1 0) 2 1) 3 2) 4 1) 5 0) 6 0) = true := by decide +kernel
theorem wk8_0_1_2_1_0_1 : wk 8 2 7 5 (aw (aw (aw (aw (aw (aw c0 1 0) 2 1) 3 2) 4 1) 5 0) 6 1) = true := by decide +kernel
theorem wk8_0_1_2_1_0_2 : wk 8 2 7 6 (aw (aw (aw (aw (aw (aw c0 1 0) 2 1) 3 2) 4 1) 5 0) 6 2) = true := by decide +kernel
theorem wk8_0_1_2_1_0 : wk 8 3 6 4 (aw (aw (aw (aw (aw c0 1 0) 2 1) 3 2) 4 1) 5 0) = true := wk_c (fun v hv => by
  rcases (by omega : v = 0 ∨ v = 1 ∨ v = 2) with rfl | rfl | rfl
  · exact wk8_0_1_2_1_0_0
  · exact wk8_0_1_2_1_0_1
  · exact wk8_0_1_2_1_0_2)
theorem wk8_0_1_2_1_1_0 : wk 8 2 7 5 (aw (aw (aw (aw (aw (aw c0 1 0) 2 1) 3 2) 4 1) 5 1) 6 0) = true := by decide +kernel
theorem wk8_0_1_2_1_1_1 : wk 8 2 7 6 (aw (aw (aw (aw (aw (aw c0 1 0) 2 1) 3 2) 4 1) 5 1) 6 1) = true := by decide +kernel
theorem wk8_0_1_2_1_1 : wk 8 3 6 5 (aw (aw (aw (aw (aw c0 1 0) 2 1) 3 2) 4 1) 5 1) = true := wk_c (fun v hv => by
  rcases (by omega : v = 0 ∨ v = 1) with rfl | rfl
  · exact wk8_0_1_2_1_1_0
  · exact wk8_0_1_2_1_1_1)
theorem wk8_0_1_2_1 : wk 8 4 5 4 (aw (aw (aw (aw c0 1 0) 2 1) 3 2) 4 1) = true := wk_c (fun v hv => by
  rcases (by omega : v = 0 ∨ v = 1) with rfl | rfl
  · exact wk8_0_1_2_1_0
  · exact wk8_0_1_2_1_1)
theorem wk8_0_1_2 : wk 8 5 4 3 (aw (aw (aw c0 1 0) 2 1) 3 2) = true := wk_c (fun v hv => by
  rcases (by omega : v = 0 ∨ v = 1) with rfl | rfl
  · exact wk8_0_1_2_0
  · exact wk8_0_1_2_1)
theorem wk8_0_1 : wk 8 6 3 1 (aw (aw c0 1 0) 2 1) = true := wk_c (fun v hv => by
  rcases (by omega : v = 0 ∨ v = 1 ∨ v = 2) with rfl | rfl | rfl
  · exact wk8_0_1_0
  · exact wk8_0_1_1
  · exact wk8_0_1_2)
theorem wk8_0_2_0_0_0_0 : wk 8 2 7 2 (aw (aw (aw (aw (aw (aw c0 1 0) 2 2) 3 0) 4 0) 5 0) 6 0) = true := by decide +kernel
theorem wk8_0_2_0_0_0_1 : wk 8 2 7 3 (aw (aw (aw (aw (aw (aw c0 1 0) 2 2) 3 0) 4 0) 5 0) 6 1) = true := by decide +kernel
theorem wk8_0_2_0_0_0_2 : wk 8 2 7 4 (aw (aw (aw (aw (aw (aw c0 1 0) 2 2) 3 0) 4 0) 5 0) 6 2) = true := by decide +kernel
theorem wk8_0_2_0_0_0_3 : wk 8 2 7 5 (aw (aw (aw (aw (aw (aw c0 1 0) 2 2) 3 0) 4 0) 5 0) 6 3) = true := by decide +kernel
theorem wk8_0_2_0_0_0_4 : wk 8 2 7 6 (aw (aw (aw (aw (aw (aw c0 1 0) 2 2) 3 0) 4 0) 5 0) 6 4) = true := by decide +kernel
theorem wk8_0_2_0_0_0 : wk 8 3 6 2 (aw (aw (aw (aw (aw c0 1 0) 2 2) 3 0) 4 0) 5 0) = true := wk_c (fun v hv => by
  rcases (by omega : v = 0 ∨ v = 1 ∨ v = 2 ∨ v = 3 ∨ v = 4) with rfl | rfl | rfl | rfl | rfl
  · exact wk8_0_2_0_0_0_0
  · exact wk8_0_2_0_0_0_1
  · exact wk8_0_2_0_0_0_2
  · exact wk8_0_2_0_0_0_3
  · exact wk8_0_2_0_0_0_4)
theorem wk8_0_2_0_0_1_0 : wk 8 2 7 3 (aw (aw (aw (aw (aw (aw c0 1 0) 2 2) 3 0) 4 0) 5 1) 6 0) = true := by decide +kernel
theorem wk8_0_2_0_0_1_1 : wk 8 2 7 4 (aw (aw (aw (aw (aw (aw c0 1 0) 2 2) 3 0) 4 0) 5 1) 6 1) = true := by decide +kernel
theorem wk8_0_2_0_0_1_2 : wk 8 2 7 5 (aw (aw (aw (aw (aw (aw c0 1 0) 2 2) 3 0) 4 0) 5 1) 6 2) = true := by decide +kernel
theorem wk8_0_2_0_0_1_3 : wk 8 2 7 6 (aw (aw (aw (aw (aw (aw c0 1 0) 2 2) 3 0) 4 0) 5 1) 6 3) = true := by decide +kernel
theorem wk8_0_2_0_0_1 : wk 8 3 6 3 (aw (aw (aw (aw (aw c0 1 0) 2 2) 3 0) 4 0) 5 1) = true := wk_c (fun v hv => by
  rcases (by omega : v = 0 ∨ v = 1 ∨ v = 2 ∨ v = 3) with rfl | rfl | rfl | rfl
  · exact wk8_0_2_0_0_1_0
  · exact wk8_0_2_0_0_1_1
  · exact wk8_0_2_0_0_1_2
  · exact wk8_0_2_0_0_1_3)
theorem wk8_0_2_0_0_2_0 : wk 8 2 7 4 (aw (aw (aw (aw (aw (aw c0 1 0) 2 2) 3 0) 4 0) 5 2) 6 0) = true := by decide +kernel
theorem wk8_0_2_0_0_2_1 : wk 8 2 7 5 (aw (aw (aw (aw (aw (aw c0 1 0) 2 2) 3 0) 4 0) 5 2) 6 1) = true := by decide +kernel
theorem wk8_0_2_0_0_2_2 : wk 8 2 7 6 (aw (aw (aw (aw (aw (aw c0 1 0) 2 2) 3 0) 4 0) 5 2) 6 2) = true := by decide +kernel
theorem wk8_0_2_0_0_2 : wk 8 3 6 4 (aw (aw (aw (aw (aw c0 1 0) 2 2) 3 0) 4 0) 5 2) = true := wk_c (fun v hv => by
  rcases (by omega : v = 0 ∨ v = 1 ∨ v = 2) with rfl | rfl | rfl
  · exact wk8_0_2_0_0_2_0
  · exact wk8_0_2_0_0_2_1
  · exact wk8_0_2_0_0_2_2)
theorem wk8_0_2_0_0_3_0 : wk 8 2 7 5 (aw (aw (aw (aw (aw (aw c0 1 0) 2 2) 3 0) 4 0) 5 3) 6 0) = true := by decide +kernel
theorem wk8_0_2_0_0_3_1 : wk 8 2 7 6 (aw (aw (aw (aw (aw (aw c0 1 0) 2 2) 3 0) 4 0) 5 3) 6 1) = true := by decide +kernel
theorem wk8_0_2_0_0_3 : wk 8 3 6 5 (aw (aw (aw (aw (aw c0 1 0) 2 2) 3 0) 4 0) 5 3) = true := wk_c (fun v hv => by
  rcases (by omega : v = 0 ∨ v = 1) with rfl | rfl
  · exact wk8_0_2_0_0_3_0
  · exact wk8_0_2_0_0_3_1)
theorem wk8_0_2_0_0 : wk 8 4 5 2 (aw (aw (aw (aw c0 1 0) 2 2) 3 0) 4 0) = true := wk_c (fun v hv => by
  rcases (by omega : v = 0 ∨ v = 1 ∨ v = 2 ∨ v = 3) with rfl | rfl | rfl | rfl
  · exact wk8_0_2_0_0_0
  · exact wk8_0_2_0_0_1
  · exact wk8_0_2_0_0_2
  · exact wk8_0_2_0_0_3)
theorem wk8_0_2_0_1_0_0 : wk 8 2 7 3 (aw (aw (aw (aw (aw (aw c0 1 0) 2 2) 3 0) 4 1) 5 0) 6 0) = true := by decide +kernel
theorem wk8_0_2_0_1_0_1 : wk 8 2 7 4 (aw (aw (aw (aw (aw (aw c0 1 0) 2 2) 3 0) 4 1) 5 0) 6 1) = true := by decide +kernel
theorem wk8_0_2_0_1_0_2 : wk 8 2 7 5 (aw (aw (aw (aw (aw (aw c0 1 0) 2 2) 3 0) 4 1) 5 0) 6 2) = true := by decide +kernel
theorem wk8_0_2_0_1_0_3 : wk 8 2 7 6 (aw (aw (aw (aw (aw (aw c0 1 0) 2 2) 3 0) 4 1) 5 0) 6 3) = true := by decide +kernel
theorem wk8_0_2_0_1_0 : wk 8 3 6 3 (aw (aw (aw (aw (aw c0 1 0) 2 2) 3 0) 4 1) 5 0) = true := wk_c (fun v hv => by
  rcases (by omega : v = 0 ∨ v = 1 ∨ v = 2 ∨ v = 3) with rfl | rfl | rfl | rfl
  · exact wk8_0_2_0_1_0_0
  · exact wk8_0_2_0_1_0_1
  · exact wk8_0_2_0_1_0_2
  · exact wk8_0_2_0_1_0_3)
theorem wk8_0_2_0_1_1_0 : wk 8 2 7 4 (aw (aw (aw (aw (aw (aw c0 1 0) 2 2) 3 0) 4 1) 5 1) 6 0) = true := by decide +kernel
theorem wk8_0_2_0_1_1_1 : wk 8 2 7 5 (aw (aw (aw (aw (aw (aw c0 1 0) 2 2) 3 0) 4 1) 5 1) 6 1) = true := by decide +kernel
theorem wk8_0_2_0_1_1_2 : wk 8 2 7 6 (aw (aw (aw (aw (aw (aw c0 1 0) 2 2) 3 0) 4 1) 5 1) 6 2) = true := by decide +kernel
theorem wk8_0_2_0_1_1 : wk 8 3 6 4 (aw (aw (aw (aw (aw c0 1 0) 2 2) 3 0) 4 1) 5 1) = true := wk_c (fun v hv => by
  rcases (by omega : v = 0 ∨ v = 1 ∨ v = 2) with rfl | rfl | rfl
  · exact wk8_0_2_0_1_1_0
  · exact wk8_0_2_0_1_1_1
  · exact wk8_0_2_0_1_1_2)
theorem wk8_0_2_0_1_2_0 : wk 8 2 7 5 (aw (aw (aw (aw (aw (aw c0 1 0) 2 2) 3 0) 4 1) 5 2) 6 0) = true := by decide +kernel
theorem wk8_0_2_0_1_2_1 : wk 8 2 7 6 (aw (aw (aw (aw (aw (aw c0 1 0) 2 2) 3 0) 4 1) 5 2) 6 1) = true := by decide +kernel
theorem wk8_0_2_0_1_2 : wk 8 3 6 5 (aw (aw (aw (aw (aw c0 1 0) 2 2) 3 0) 4 1) 5 2) = true := wk_c (fun v hv => by
  rcases (by omega : v = 0 ∨ v = 1) with rfl | rfl
  · exact wk8_0_2_0_1_2_0
  · exact wk8_0_2_0_1_2_1)
theorem wk8_0_2_0_1 : wk 8 4 5 3 (aw (aw (aw (aw c0 1 0) 2 2) 3 0) 4 1) = true := wk_c (fun v hv => by
  rcases (by omega : v = 0 ∨ v = 1 ∨ v = 2) with rfl | rfl | rfl
  · exact wk8_0_2_0_1_0
  · exact wk8_0_2_0_1_1
  · exact wk8_0_2_0_1_2)
theorem wk8_0_2_0_2_0_0 : wk 8 2 7 4 (aw (aw (aw (aw (aw (aw c0 1 0) 2 2) 3 0) 4 2) 5 0) 6 0) = true := by decide +kernel
theorem wk8_0_2_0_2_0_1 : wk 8 2 7 5 (aw (aw (aw (aw (aw (aw c0 1 0) 2 2) 3 0) 4 2) 5 0) 6 1) = true := by decide +kernel
theorem wk8_0_2_0_2_0_2 : wk 8 2 7 6 (aw (aw (aw (aw (aw (aw c0 1 0) 2 2) 3 0) 4 2) 5 0) 6 2) = true := by decide +kernel
theorem wk8_0_2_0_2_0 : wk 8 3 6 4 (aw (aw (aw (aw (aw c0 1 0) 2 2) 3 0) 4 2) 5 0) = true := wk_c (fun v hv => by
  rcases (by omega : v = 0 ∨ v = 1 ∨ v = 2) with rfl | rfl | rfl
  · exact wk8_0_2_0_2_0_0
  · exact wk8_0_2_0_2_0_1
  · exact wk8_0_2_0_2_0_2)
theorem wk8_0_2_0_2_1_0 : wk 8 2 7 5 (aw (aw (aw (aw (aw (aw c0 1 0) 2 2) 3 0) 4 2) 5 1) 6 0) = true := by decide +kernel
theorem wk8_0_2_0_2_1_1 : wk 8 2 7 6 (aw (aw (aw (aw (aw (aw c0 1 0) 2 2) 3 0) 4 2) 5 1) 6 1) = true := by decide +kernel
theorem wk8_0_2_0_2_1 : wk 8 3 6 5 (aw (aw (aw (aw (aw c0 1 0) 2 2) 3 0) 4 2) 5 1) = true := wk_c (fun v hv => by
  rcases (by omega : v = 0 ∨ v = 1) with rfl | rfl
  · exact wk8_0_2_0_2_1_0
  · exact wk8_0_2_0_2_1_1)
theorem wk8_0_2_0_2 : wk 8 4 5 4 (aw (aw (aw (aw c0 1 0) 2 2) 3 0) 4 2) = true := wk_c (fun v hv => by
  rcases (by omega : v = 0 ∨ v = 1) with rfl | rfl
  · exact wk8_0_2_0_2_0
  · exact wk8_0_2_0_2_1)
theorem wk8_0_2_0 : wk 8 5 4 2 (aw (aw (aw c0 1 0) 2 2) 3 0) = true := wk_c (fun v hv => by
  rcases (by omega : v = 0 ∨ v = 1 ∨ v = 2) with rfl | rfl | rfl
  · exact wk8_0_2_0_0
  · exact wk8_0_2_0_1
  · exact wk8_0_2_0_2)
theorem wk8_0_2_1_0_0_0 : wk 8 2 7 3 (aw (aw (aw (aw (aw (aw c0 1 0) 2 2) 3 1) 4 0) 5 0) 6 0) = true := by decide +kernel
theorem wk8_0_2_1_0_0_1 : wk 8 2 7 4 (aw (aw (aw (aw (aw (aw c0 1 0) 2 2) 3 1) 4 0) 5 0) 6 1) = true := by decide +kernel
theorem wk8_0_2_1_0_0_2 : wk 8 2 7 5 (aw (aw (aw (aw (aw (aw c0 1 0) 2 2) 3 1) 4 0) 5 0) 6 2) = true := by decide +kernel
theorem wk8_0_2_1_0_0_3 : wk 8 2 7 6 (aw (aw (aw (aw (aw (aw c0 1 0) 2 2) 3 1) 4 0) 5 0) 6 3) = true := by decide +kernel
theorem wk8_0_2_1_0_0 : wk 8 3 6 3 (aw (aw (aw (aw (aw c0 1 0) 2 2) 3 1) 4 0) 5 0) = true := wk_c (fun v hv => by
  rcases (by omega : v = 0 ∨ v = 1 ∨ v = 2 ∨ v = 3) with rfl | rfl | rfl | rfl
  · exact wk8_0_2_1_0_0_0
  · exact wk8_0_2_1_0_0_1
  · exact wk8_0_2_1_0_0_2
  · exact wk8_0_2_1_0_0_3)
theorem wk8_0_2_1_0_1_0 : wk 8 2 7 4 (aw (aw (aw (aw (aw (aw c0 1 0) 2 2) 3 1) 4 0) 5 1) 6 0) = true := by decide +kernel
theorem wk8_0_2_1_0_1_1 : wk 8 2 7 5 (aw (aw (aw (aw (aw (aw c0 1 0) 2 2) 3 1) 4 0) 5 1) 6 1) = true := by decide +kernel
theorem wk8_0_2_1_0_1_2 : wk 8 2 7 6 (aw (aw (aw (aw (aw (aw c0 1 0) 2 2) 3 1) 4 0) 5 1) 6 2) = true := by decide +kernel
theorem wk8_0_2_1_0_1 : wk 8 3 6 4 (aw (aw (aw (aw (aw c0 1 0) 2 2) 3 1) 4 0) 5 1) = true := wk_c (fun v hv => by
  rcases (by omega : v = 0 ∨ v = 1 ∨ v = 2) with rfl | rfl | rfl
  · exact wk8_0_2_1_0_1_0
  · exact wk8_0_2_1_0_1_1
  · exact wk8_0_2_1_0_1_2)
theorem wk8_0_2_1_0_2_0 : wk 8 2 7 5 (aw (aw (aw (aw (aw (aw c0 1 0) 2 2) 3 1) 4 0) 5 2) 6 0) = true := by decide +kernel
theorem wk8_0_2_1_0_2_1 : wk 8 2 7 6 (aw (aw (aw (aw (aw (aw c0 1 0) 2 2) 3 1) 4 0) 5 2) 6 1) = true := by decide +kernel
theorem wk8_0_2_1_0_2 : wk 8 3 6 5 (aw (aw (aw (aw (aw c0 1 0) 2 2) 3 1) 4 0) 5 2) = true := wk_c (fun v hv => by
  rcases (by omega : v = 0 ∨ v = 1) with rfl | rfl
  · exact wk8_0_2_1_0_2_0
  · exact wk8_0_2_1_0_2_1)
theorem wk8_0_2_1_0 : wk 8 4 5 3 (aw (aw (aw (aw c0 1 0) 2 2) 3 1) 4 0) = true := wk_c (fun v hv => by
  rcases (by omega : v = 0 ∨ v = 1 ∨ v = 2) with rfl | rfl | rfl
  · exact wk8_0_2_1_0_0
  · exact wk8_0_2_1_0_1
  · exact wk8_0_2_1_0_2)
theorem wk8_0_2_1_1_0_0 : wk 8 2 7 4 (aw (aw (aw (aw (aw (aw c0 1 0) 2 2) 3 1) 4 1) 5 0) 6 0) = true := by decide +kernel
theorem wk8_0_2_1_1_0_1 : wk 8 2 7 5 (aw (aw (aw (aw (aw (aw c0 1 0) 2 2) 3 1) 4 1) 5 0) 6 1) = true := by decide +kernel
theorem wk8_0_2_1_1_0_2 : wk 8 2 7 6 (aw (aw (aw (aw (aw (aw c0 1 0) 2 2) 3 1) 4 1) 5 0) 6 2) = true := by decide +kernel
theorem wk8_0_2_1_1_0 : wk 8 3 6 4 (aw (aw (aw (aw (aw c0 1 0) 2 2) 3 1) 4 1) 5 0) = true := wk_c (fun v hv => by
  rcases (by omega : v = 0 ∨ v = 1 ∨ v = 2) with rfl | rfl | rfl
  · exact wk8_0_2_1_1_0_0
  · exact wk8_0_2_1_1_0_1
  · exact wk8_0_2_1_1_0_2)
theorem wk8_0_2_1_1_1_0 : wk 8 2 7 5 (aw (aw (aw (aw (aw (aw c0 1 0) 2 2) 3 1) 4 1) 5 1) 6 0) = true := by decide +kernel
theorem wk8_0_2_1_1_1_1 : wk 8 2 7 6 (aw (aw (aw (aw (aw (aw c0 1 0) 2 2) 3 1) 4 1) 5 1) 6 1) = true := by decide +kernel
theorem wk8_0_2_1_1_1 : wk 8 3 6 5 (aw (aw (aw (aw (aw c0 1 0) 2 2) 3 1) 4 1) 5 1) = true := wk_c (fun v hv => by
  rcases (by omega : v = 0 ∨ v = 1) with rfl | rfl
  · exact wk8_0_2_1_1_1_0
  · exact wk8_0_2_1_1_1_1)
theorem wk8_0_2_1_1 : wk 8 4 5 4 (aw (aw (aw (aw c0 1 0) 2 2) 3 1) 4 1) = true := wk_c (fun v hv => by
  rcases (by omega : v = 0 ∨ v = 1) with rfl | rfl
  · exact wk8_0_2_1_1_0
  · exact wk8_0_2_1_1_1)
theorem wk8_0_2_1 : wk 8 5 4 3 (aw (aw (aw c0 1 0) 2 2) 3 1) = true := wk_c (fun v hv => by
  rcases (by omega : v = 0 ∨ v = 1) with rfl | rfl
  · exact wk8_0_2_1_0
  · exact wk8_0_2_1_1)
theorem wk8_0_2 : wk 8 6 3 2 (aw (aw c0 1 0) 2 2) = true := wk_c (fun v hv => by
  rcases (by omega : v = 0 ∨ v = 1) with rfl | rfl
  · exact wk8_0_2_0
  · exact wk8_0_2_1)
theorem wk8_0 : wk 8 7 2 0 (aw c0 1 0) = true := wk_c (fun v hv => by
  rcases (by omega : v = 0 ∨ v = 1 ∨ v = 2) with rfl | rfl | rfl
  · exact wk8_0_0
  · exact wk8_0_1
  · exact wk8_0_2)
theorem wk8_1_0_0_0_0_0 : wk 8 2 7 1 (aw (aw (aw (aw (aw (aw c0 1 1) 2 0) 3 0) 4 0) 5 0) 6 0) = true := by decide +kernel
theorem wk8_1_0_0_0_0_1 : wk 8 2 7 2 (aw (aw (aw (aw (aw (aw c0 1 1) 2 0) 3 0) 4 0) 5 0) 6 1) = true := by decide +kernel
theorem wk8_1_0_0_0_0_2 : wk 8 2 7 3 (aw (aw (aw (aw (aw (aw c0 1 1) 2 0) 3 0) 4 0) 5 0) 6 2) = true := by decide +kernel
theorem wk8_1_0_0_0_0_3 : wk 8 2 7 4 (aw (aw (aw (aw (aw (aw c0 1 1) 2 0) 3 0) 4 0) 5 0) 6 3) = true := by decide +kernel
theorem wk8_1_0_0_0_0_4 : wk 8 2 7 5 (aw (aw (aw (aw (aw (aw c0 1 1) 2 0) 3 0) 4 0) 5 0) 6 4) = true := by decide +kernel
theorem wk8_1_0_0_0_0_5 : wk 8 2 7 6 (aw (aw (aw (aw (aw (aw c0 1 1) 2 0) 3 0) 4 0) 5 0) 6 5) = true := by decide +kernel
theorem wk8_1_0_0_0_0 : wk 8 3 6 1 (aw (aw (aw (aw (aw c0 1 1) 2 0) 3 0) 4 0) 5 0) = true := wk_c (fun v hv => by
  rcases (by omega : v = 0 ∨ v = 1 ∨ v = 2 ∨ v = 3 ∨ v = 4 ∨ v = 5) with rfl | rfl | rfl | rfl | rfl | rfl
  · exact wk8_1_0_0_0_0_0
  · exact wk8_1_0_0_0_0_1
  · exact wk8_1_0_0_0_0_2
  · exact wk8_1_0_0_0_0_3
  · exact wk8_1_0_0_0_0_4
  · exact wk8_1_0_0_0_0_5)
theorem wk8_1_0_0_0_1_0 : wk 8 2 7 2 (aw (aw (aw (aw (aw (aw c0 1 1) 2 0) 3 0) 4 0) 5 1) 6 0) = true := by decide +kernel
theorem wk8_1_0_0_0_1_1 : wk 8 2 7 3 (aw (aw (aw (aw (aw (aw c0 1 1) 2 0) 3 0) 4 0) 5 1) 6 1) = true := by decide +kernel
theorem wk8_1_0_0_0_1_2 : wk 8 2 7 4 (aw (aw (aw (aw (aw (aw c0 1 1) 2 0) 3 0) 4 0) 5 1) 6 2) = true := by decide +kernel
theorem wk8_1_0_0_0_1_3 : wk 8 2 7 5 (aw (aw (aw (aw (aw (aw c0 1 1) 2 0) 3 0) 4 0) 5 1) 6 3) = true := by decide +kernel
theorem wk8_1_0_0_0_1_4 : wk 8 2 7 6 (aw (aw (aw (aw (aw (aw c0 1 1) 2 0) 3 0) 4 0) 5 1) 6 4) = true := by decide +kernel
theorem wk8_1_0_0_0_1 : wk 8 3 6 2 (aw (aw (aw (aw (aw c0 1 1) 2 0) 3 0) 4 0) 5 1) = true := wk_c (fun v hv => by
  rcases (by omega : v = 0 ∨ v = 1 ∨ v = 2 ∨ v = 3 ∨ v = 4) with rfl | rfl | rfl | rfl | rfl
  · exact wk8_1_0_0_0_1_0
  · exact wk8_1_0_0_0_1_1
  · exact wk8_1_0_0_0_1_2
  · exact wk8_1_0_0_0_1_3
  · exact wk8_1_0_0_0_1_4)
theorem wk8_1_0_0_0_2_0 : wk 8 2 7 3 (aw (aw (aw (aw (aw (aw c0 1 1) 2 0) 3 0) 4 0) 5 2) 6 0) = true := by decide +kernel
theorem wk8_1_0_0_0_2_1 : wk 8 2 7 4 (aw (aw (aw (aw (aw (aw c0 1 1) 2 0) 3 0) 4 0) 5 2) 6 1) = true := by decide +kernel
theorem wk8_1_0_0_0_2_2 : wk 8 2 7 5 (aw (aw (aw (aw (aw (aw c0 1 1) 2 0) 3 0) 4 0) 5 2) 6 2) = true := by decide +kernel
theorem wk8_1_0_0_0_2_3 : wk 8 2 7 6 (aw (aw (aw (aw (aw (aw c0 1 1) 2 0) 3 0) 4 0) 5 2) 6 3) = true := by decide +kernel
theorem wk8_1_0_0_0_2 : wk 8 3 6 3 (aw (aw (aw (aw (aw c0 1 1) 2 0) 3 0) 4 0) 5 2) = true := wk_c (fun v hv => by
  rcases (by omega : v = 0 ∨ v = 1 ∨ v = 2 ∨ v = 3) with rfl | rfl | rfl | rfl
  · exact wk8_1_0_0_0_2_0
  · exact wk8_1_0_0_0_2_1
  · exact wk8_1_0_0_0_2_2
  · exact wk8_1_0_0_0_2_3)
theorem wk8_1_0_0_0_3_0 : wk 8 2 7 4 (aw (aw (aw (aw (aw (aw c0 1 1) 2 0) 3 0) 4 0) 5 3) 6 0) = true := by decide +kernel
theorem wk8_1_0_0_0_3_1 : wk 8 2 7 5 (aw (aw (aw (aw (aw (aw c0 1 1) 2 0) 3 0) 4 0) 5 3) 6 1) = true := by decide +kernel
theorem wk8_1_0_0_0_3_2 : wk 8 2 7 6 (aw (aw (aw (aw (aw (aw c0 1 1) 2 0) 3 0) 4 0) 5 3) 6 2) = true := by decide +kernel
theorem wk8_1_0_0_0_3 : wk 8 3 6 4 (aw (aw (aw (aw (aw c0 1 1) 2 0) 3 0) 4 0) 5 3) = true := wk_c (fun v hv => by
  rcases (by omega : v = 0 ∨ v = 1 ∨ v = 2) with rfl | rfl | rfl
  · exact wk8_1_0_0_0_3_0
  · exact wk8_1_0_0_0_3_1
  · exact wk8_1_0_0_0_3_2)
theorem wk8_1_0_0_0_4_0 : wk 8 2 7 5 (aw (aw (aw (aw (aw (aw c0 1 1) 2 0) 3 0) 4 0) 5 4) 6 0) = true := by decide +kernel
theorem wk8_1_0_0_0_4_1 : wk 8 2 7 6 (aw (aw (aw (aw (aw (aw c0 1 1) 2 0) 3 0) 4 0) 5 4) 6 1) = true := by decide +kernel
theorem wk8_1_0_0_0_4 : wk 8 3 6 5 (aw (aw (aw (aw (aw c0 1 1) 2 0) 3 0) 4 0) 5 4) = true := wk_c (fun v hv => by
  rcases (by omega : v = 0 ∨ v = 1) with rfl | rfl
  · exact wk8_1_0_0_0_4_0
  · exact wk8_1_0_0_0_4_1)
theorem wk8_1_0_0_0 : wk 8 4 5 1 (aw (aw (aw (aw c0 1 1) 2 0) 3 0) 4 0) = true := wk_c (fun v hv => by
  rcases (by omega : v = 0 ∨ v = 1 ∨ v = 2 ∨ v = 3 ∨ v = 4) with rfl | rfl | rfl | rfl | rfl
  · exact wk8_1_0_0_0_0
  · exact wk8_1_0_0_0_1
  · exact wk8_1_0_0_0_2
  · exact wk8_1_0_0_0_3
  · exact wk8_1_0_0_0_4)
theorem wk8_1_0_0_1_0_0 : wk 8 2 7 2 (aw (aw (aw (aw (aw (aw c0 1 1) 2 0) 3 0) 4 1) 5 0) 6 0) = true := by decide +kernel
theorem wk8_1_0_0_1_0_1 : wk 8 2 7 3 (aw (aw (aw (aw (aw (aw c0 1 1) 2 0) 3 0) 4 1) 5 0) 6 1) = true := by decide +kernel
theorem wk8_1_0_0_1_0_2 : wk 8 2 7 4 (aw (aw (aw (aw (aw (aw c0 1 1) 2 0) 3 0) 4 1) 5 0) 6 2) = true := by decide +kernel
theorem wk8_1_0_0_1_0_3 : wk 8 2 7 5 (aw (aw (aw (aw (aw (aw c0 1 1) 2 0) 3 0) 4 1) 5 0) 6 3) = true := by decide +kernel
theorem wk8_1_0_0_1_0_4 : wk 8 2 7 6 (aw (aw (aw (aw (aw (aw c0 1 1) 2 0) 3 0) 4 1) 5 0) 6 4) = true := by decide +kernel
theorem wk8_1_0_0_1_0 : wk 8 3 6 2 (aw (aw (aw (aw (aw c0 1 1) 2 0) 3 0) 4 1) 5 0) = true := wk_c (fun v hv => by
  rcases (by omega : v = 0 ∨ v = 1 ∨ v = 2 ∨ v = 3 ∨ v = 4) with rfl | rfl | rfl | rfl | rfl
  · exact wk8_1_0_0_1_0_0
  · exact wk8_1_0_0_1_0_1
  · exact wk8_1_0_0_1_0_2
  · exact wk8_1_0_0_1_0_3
  · exact wk8_1_0_0_1_0_4)
theorem wk8_1_0_0_1_1_0 : wk 8 2 7 3 (aw (aw (aw (aw (aw (aw c0 1 1) 2 0) 3 0) 4 1) 5 1) 6 0) = true := by decide +kernel
theorem wk8_1_0_0_1_1_1 : wk 8 2 7 4 (aw (aw (aw (aw (aw (aw c0 1 1) 2 0) 3 0) 4 1) 5 1) 6 1) = true := by decide +kernel
theorem wk8_1_0_0_1_1_2 : wk 8 2 7 5 (aw (aw (aw (aw (aw (aw c0 1 1) 2 0) 3 0) 4 1) 5 1) 6 2) = true := by decide +kernel
theorem wk8_1_0_0_1_1_3 : wk 8 2 7 6 (aw (aw (aw (aw (aw (aw c0 1 1) 2 0) 3 0) 4 1) 5 1) 6 3) = true := by decide +kernel
theorem wk8_1_0_0_1_1 : wk 8 3 6 3 (aw (aw (aw (aw (aw c0 1 1) 2 0) 3 0) 4 1) 5 1) = true := wk_c (fun v hv => by
  rcases (by omega : v = 0 ∨ v = 1 ∨ v = 2 ∨ v = 3) with rfl | rfl | rfl | rfl
  · exact wk8_1_0_0_1_1_0
  · exact wk8_1_0_0_1_1_1
  · exact wk8_1_0_0_1_1_2
  · exact wk8_1_0_0_1_1_3)
theorem wk8_1_0_0_1_2_0 : wk 8 2 7 4 (aw (aw (aw (aw (aw (aw c0 1 1) 2 0) 3 0) 4 1) 5 2) 6 0) = true := by decide +kernel
theorem wk8_1_0_0_1_2_1 : wk 8 2 7 5 (aw (aw (aw (aw (aw (aw c0 1 1) 2 0) 3 0) 4 1) 5 2) 6 1) = true := by decide +kernel
theorem wk8_1_0_0_1_2_2 : wk 8 2 7 6 (aw (aw (aw (aw (aw (aw c0 1 1) 2 0) 3 0) 4 1) 5 2) 6 2) = true := by decide +kernel
theorem wk8_1_0_0_1_2 : wk 8 3 6 4 (aw (aw (aw (aw (aw c0 1 1) 2 0) 3 0) 4 1) 5 2) = true := wk_c (fun v hv => by
  rcases (by omega : v = 0 ∨ v = 1 ∨ v = 2) with rfl | rfl | rfl
  · exact wk8_1_0_0_1_2_0
  · exact wk8_1_0_0_1_2_1
  · exact wk8_1_0_0_1_2_2)
theorem wk8_1_0_0_1_3_0 : wk 8 2 7 5 (aw (aw (aw (aw (aw (aw c0 1 1) 2 0) 3 0) 4 1) 5 3) 6 0) = true := by decide +kernel
theorem wk8_1_0_0_1_3_1 : wk 8 2 7 6 (aw (aw (aw (aw (aw (aw c0 1 1) 2 0) 3 0) 4 1) 5 3) 6 1) = true := by decide +kernel
theorem wk8_1_0_0_1_3 : wk 8 3 6 5 (aw (aw (aw (aw (aw c0 1 1) 2 0) 3 0) 4 1) 5 3) = true := wk_c (fun v hv => by
  rcases (by omega : v = 0 ∨ v = 1) with rfl | rfl
  · exact wk8_1_0_0_1_3_0
  · exact wk8_1_0_0_1_3_1)
theorem wk8_1_0_0_1 : wk 8 4 5 2 (aw (aw (aw (aw c0 1 1) 2 0) 3 0) 4 1) = true := wk_c (fun v hv => by
  rcases (by omega : v = 0 ∨ v = 1 ∨ v = 2 ∨ v = 3) with rfl | rfl | rfl | rfl
  · exact wk8_1_0_0_1_0
  · exact wk8_1_0_0_1_1
  · exact wk8_1_0_0_1_2
  · exact wk8_1_0_0_1_3)
theorem wk8_1_0_0_2_0_0 : wk 8 2 7 3 (aw (aw (aw (aw (aw (aw c0 1 1) 2 0) 3 0) 4 2) 5 0) 6 0) = true := by decide +kernel
theorem wk8_1_0_0_2_0_1 : wk 8 2 7 4 (aw (aw (aw (aw (aw (aw c0 1 1) 2 0) 3 0) 4 2) 5 0) 6 1) = true := by decide +kernel
theorem wk8_1_0_0_2_0_2 : wk 8 2 7 5 (aw (aw (aw (aw (aw (aw c0 1 1) 2 0) 3 0) 4 2) 5 0) 6 2) = true := by decide +kernel
theorem wk8_1_0_0_2_0_3 : wk 8 2 7 6 (aw (aw (aw (aw (aw (aw c0 1 1) 2 0) 3 0) 4 2) 5 0) 6 3) = true := by decide +kernel
theorem wk8_1_0_0_2_0 : wk 8 3 6 3 (aw (aw (aw (aw (aw c0 1 1) 2 0) 3 0) 4 2) 5 0) = true := wk_c (fun v hv => by
  rcases (by omega : v = 0 ∨ v = 1 ∨ v = 2 ∨ v = 3) with rfl | rfl | rfl | rfl
  · exact wk8_1_0_0_2_0_0
  · exact wk8_1_0_0_2_0_1
  · exact wk8_1_0_0_2_0_2
  · exact wk8_1_0_0_2_0_3)
theorem wk8_1_0_0_2_1_0 : wk 8 2 7 4 (aw (aw (aw (aw (aw (aw c0 1 1) 2 0) 3 0) 4 2) 5 1) 6 0) = true := by decide +kernel
theorem wk8_1_0_0_2_1_1 : wk 8 2 7 5 (aw (aw (aw (aw (aw (aw c0 1 1) 2 0) 3 0) 4 2) 5 1) 6 1) = true := by decide +kernel
theorem wk8_1_0_0_2_1_2 : wk 8 2 7 6 (aw (aw (aw (aw (aw (aw c0 1 1) 2 0) 3 0) 4 2) 5 1) 6 2) = true := by decide +kernel
theorem wk8_1_0_0_2_1 : wk 8 3 6 4 (aw (aw (aw (aw (aw c0 1 1) 2 0) 3 0) 4 2) 5 1) = true := wk_c (fun v hv => by
  rcases (by omega : v = 0 ∨ v = 1 ∨ v = 2) with rfl | rfl | rfl
  · exact wk8_1_0_0_2_1_0
  · exact wk8_1_0_0_2_1_1
  · exact wk8_1_0_0_2_1_2)
theorem wk8_1_0_0_2_2_0 : wk 8 2 7 5 (aw (aw (aw (aw (aw (aw c0 1 1) 2 0) 3 0) 4 2) 5 2) 6 0) = true := by decide +kernel
theorem wk8_1_0_0_2_2_1 : wk 8 2 7 6 (aw (aw (aw (aw (aw (aw c0 1 1) 2 0) 3 0) 4 2) 5 2) 6 1) = true := by decide +kernel
theorem wk8_1_0_0_2_2 : wk 8 3 6 5 (aw (aw (aw (aw (aw c0 1 1) 2 0) 3 0) 4 2) 5 2) = true := wk_c (fun v hv => by
  rcases (by omega : v = 0 ∨ v = 1) with rfl | rfl
  · exact wk8_1_0_0_2_2_0
  · exact wk8_1_0_0_2_2_1)
theorem wk8_1_0_0_2 : wk 8 4 5 3 (aw (aw (aw (aw c0 1 1) 2 0) 3 0) 4 2) = true := wk_c (fun v hv => by
  rcases (by omega : v = 0 ∨ v = 1 ∨ v = 2) with rfl | rfl | rfl
  · exact wk8_1_0_0_2_0
  · exact wk8_1_0_0_2_1
  · exact wk8_1_0_0_2_2)
theorem wk8_1_0_0_3_0_0 : wk 8 2 7 4 (aw (aw (aw (aw (aw (aw c0 1 1) 2 0) 3 0) 4 3) 5 0) 6 0) = true := by decide +kernel
theorem wk8_1_0_0_3_0_1 : wk 8 2 7 5 (aw (aw (aw (aw (aw (aw c0 1 1) 2 0) 3 0) 4 3) 5 0) 6 1) = true := by decide +kernel
theorem wk8_1_0_0_3_0_2 : wk 8 2 7 6 (aw (aw (aw (aw (aw (aw c0 1 1) 2 0) 3 0) 4 3) 5 0) 6 2) = true := by decide +kernel
theorem wk8_1_0_0_3_0 : wk 8 3 6 4 (aw (aw (aw (aw (aw c0 1 1) 2 0) 3 0) 4 3) 5 0) = true := wk_c (fun v hv => by
  rcases (by omega : v = 0 ∨ v = 1 ∨ v = 2) with rfl | rfl | rfl
  · exact wk8_1_0_0_3_0_0
  · exact wk8_1_0_0_3_0_1
  · exact wk8_1_0_0_3_0_2)
theorem wk8_1_0_0_3_1_0 : wk 8 2 7 5 (aw (aw (aw (aw (aw (aw c0 1 1) 2 0) 3 0) 4 3) 5 1) 6 0) = true := by decide +kernel
theorem wk8_1_0_0_3_1_1 : wk 8 2 7 6 (aw (aw (aw (aw (aw (aw c0 1 1) 2 0) 3 0) 4 3) 5 1) 6 1) = true := by decide +kernel
theorem wk8_1_0_0_3_1 : wk 8 3 6 5 (aw (aw (aw (aw (aw c0 1 1) 2 0) 3 0) 4 3) 5 1) = true := wk_c (fun v hv => by
  rcases (by omega : v = 0 ∨ v = 1) with rfl | rfl
  · exact wk8_1_0_0_3_1_0
  · exact wk8_1_0_0_3_1_1)
theorem wk8_1_0_0_3 : wk 8 4 5 4 (aw (aw (aw (aw c0 1 1) 2 0) 3 0) 4 3) = true := wk_c (fun v hv => by
  rcases (by omega : v = 0 ∨ v = 1) with rfl | rfl
  · exact wk8_1_0_0_3_0
  · exact wk8_1_0_0_3_1)
theorem wk8_1_0_0 : wk 8 5 4 1 (aw (aw (aw c0 1 1) 2 0) 3 0) = true := wk_c (fun v hv => by
  rcases (by omega : v = 0 ∨ v = 1 ∨ v = 2 ∨ v = 3) with rfl | rfl | rfl | rfl
  · exact wk8_1_0_0_0
  · exact wk8_1_0_0_1
  · exact wk8_1_0_0_2
  · exact wk8_1_0_0_3)
theorem wk8_1_0_1_0_0_0 : wk 8 2 7 2 (aw (aw (aw (aw (aw (aw c0 1 1) 2 0) 3 1) 4 0) 5 0) 6 0) = true := by decide +kernel
theorem wk8_1_0_1_0_0_1 : wk 8 2 7 3 (aw (aw (aw (aw (aw (aw c0 1 1) 2 0) 3 1) 4 0) 5 0) 6 1) = true := by decide +kernel
theorem wk8_1_0_1_0_0_2 : wk 8 2 7 4 (aw (aw (aw (aw (aw (aw c0 1 1) 2 0) 3 1) 4 0) 5 0) 6 2) = true := by decide +kernel
theorem wk8_1_0_1_0_0_3 : wk 8 2 7 5 (aw (aw (aw (aw (aw (aw c0 1 1) 2 0) 3 1) 4 0) 5 0) 6 3) = true := by decide +kernel
theorem wk8_1_0_1_0_0_4 : wk 8 2 7 6 (aw (aw (aw (aw (aw (aw c0 1 1) 2 0) 3 1) 4 0) 5 0) 6 4) = true := by decide +kernel
theorem wk8_1_0_1_0_0 : wk 8 3 6 2 (aw (aw (aw (aw (aw c0 1 1) 2 0) 3 1) 4 0) 5 0) = true := wk_c (fun v hv => by
  rcases (by omega : v = 0 ∨ v = 1 ∨ v = 2 ∨ v = 3 ∨ v = 4) with rfl | rfl | rfl | rfl | rfl
  · exact wk8_1_0_1_0_0_0
  · exact wk8_1_0_1_0_0_1
  · exact wk8_1_0_1_0_0_2
  · exact wk8_1_0_1_0_0_3
  · exact wk8_1_0_1_0_0_4)
theorem wk8_1_0_1_0_1_0 : wk 8 2 7 3 (aw (aw (aw (aw (aw (aw c0 1 1) 2 0) 3 1) 4 0) 5 1) 6 0) = true := by decide +kernel
theorem wk8_1_0_1_0_1_1 : wk 8 2 7 4 (aw (aw (aw (aw (aw (aw c0 1 1) 2 0) 3 1) 4 0) 5 1) 6 1) = true := by decide +kernel
theorem wk8_1_0_1_0_1_2 : wk 8 2 7 5 (aw (aw (aw (aw (aw (aw c0 1 1) 2 0) 3 1) 4 0) 5 1) 6 2) = true := by decide +kernel
theorem wk8_1_0_1_0_1_3 : wk 8 2 7 6 (aw (aw (aw (aw (aw (aw c0 1 1) 2 0) 3 1) 4 0) 5 1) 6 3) = true := by decide +kernel
theorem wk8_1_0_1_0_1 : wk 8 3 6 3 (aw (aw (aw (aw (aw c0 1 1) 2 0) 3 1) 4 0) 5 1) = true := wk_c (fun v hv => by
  rcases (by omega : v = 0 ∨ v = 1 ∨ v = 2 ∨ v = 3) with rfl | rfl | rfl | rfl
  · exact wk8_1_0_1_0_1_0
  · exact wk8_1_0_1_0_1_1
  · exact wk8_1_0_1_0_1_2
  · exact wk8_1_0_1_0_1_3)
theorem wk8_1_0_1_0_2_0 : wk 8 2 7 4 (aw (aw (aw (aw (aw (aw c0 1 1) 2 0) 3 1) 4 0) 5 2) 6 0) = true := by decide +kernel
theorem wk8_1_0_1_0_2_1 : wk 8 2 7 5 (aw (aw (aw (aw (aw (aw c0 1 1) 2 0) 3 1) 4 0) 5 2) 6 1) = true := by decide +kernel
theorem wk8_1_0_1_0_2_2 : wk 8 2 7 6 (aw (aw (aw (aw (aw (aw c0 1 1) 2 0) 3 1) 4 0) 5 2) 6 2) = true := by decide +kernel
theorem wk8_1_0_1_0_2 : wk 8 3 6 4 (aw (aw (aw (aw (aw c0 1 1) 2 0) 3 1) 4 0) 5 2) = true := wk_c (fun v hv => by
  rcases (by omega : v = 0 ∨ v = 1 ∨ v = 2) with rfl | rfl | rfl
  · exact wk8_1_0_1_0_2_0
  · exact wk8_1_0_1_0_2_1
  · exact wk8_1_0_1_0_2_2)
theorem wk8_1_0_1_0_3_0 : wk 8 2 7 5 (aw (aw (aw (aw (aw (aw c0 1 1) 2 0) 3 1) 4 0) 5 3) 6 0) = true := by decide +kernel
theorem wk8_1_0_1_0_3_1 : wk 8 2 7 6 (aw (aw (aw (aw (aw (aw c0 1 1) 2 0) 3 1) 4 0) 5 3) 6 1) = true := by decide +kernel
theorem wk8_1_0_1_0_3 : wk 8 3 6 5 (aw (aw (aw (aw (aw c0 1 1) 2 0) 3 1) 4 0) 5 3) = true := wk_c (fun v hv => by
  rcases (by omega : v = 0 ∨ v = 1) with rfl | rfl
  · exact wk8_1_0_1_0_3_0
  · exact wk8_1_0_1_0_3_1)
theorem wk8_1_0_1_0 : wk 8 4 5 2 (aw (aw (aw (aw c0 1 1) 2 0) 3 1) 4 0) = true := wk_c (fun v hv => by
  rcases (by omega : v = 0 ∨ v = 1 ∨ v = 2 ∨ v = 3) with rfl | rfl | rfl | rfl
  · exact wk8_1_0_1_0_0
  · exact wk8_1_0_1_0_1
  · exact wk8_1_0_1_0_2
  · exact wk8_1_0_1_0_3)
theorem wk8_1_0_1_1_0_0 : wk 8 2 7 3 (aw (aw (aw (aw (aw (aw c0 1 1) 2 0) 3 1) 4 1) 5 0) 6 0) = true := by decide +kernel
theorem wk8_1_0_1_1_0_1 : wk 8 2 7 4 (aw (aw (aw (aw (aw (aw c0 1 1) 2 0) 3 1) 4 1) 5 0) 6 1) = true := by decide +kernel
theorem wk8_1_0_1_1_0_2 : wk 8 2 7 5 (aw (aw (aw (aw (aw (aw c0 1 1) 2 0) 3 1) 4 1) 5 0) 6 2) = true := by decide +kernel
theorem wk8_1_0_1_1_0_3 : wk 8 2 7 6 (aw (aw (aw (aw (aw (aw c0 1 1) 2 0) 3 1) 4 1) 5 0) 6 3) = true := by decide +kernel
theorem wk8_1_0_1_1_0 : wk 8 3 6 3 (aw (aw (aw (aw (aw c0 1 1) 2 0) 3 1) 4 1) 5 0) = true := wk_c (fun v hv => by
  rcases (by omega : v = 0 ∨ v = 1 ∨ v = 2 ∨ v = 3) with rfl | rfl | rfl | rfl
  · exact wk8_1_0_1_1_0_0
  · exact wk8_1_0_1_1_0_1
  · exact wk8_1_0_1_1_0_2
  · exact wk8_1_0_1_1_0_3)
theorem wk8_1_0_1_1_1_0 : wk 8 2 7 4 (aw (aw (aw (aw (aw (aw c0 1 1) 2 0) 3 1) 4 1) 5 1) 6 0) = true := by decide +kernel
theorem wk8_1_0_1_1_1_1 : wk 8 2 7 5 (aw (aw (aw (aw (aw (aw c0 1 1) 2 0) 3 1) 4 1) 5 1) 6 1) = true := by decide +kernel
theorem wk8_1_0_1_1_1_2 : wk 8 2 7 6 (aw (aw (aw (aw (aw (aw c0 1 1) 2 0) 3 1) 4 1) 5 1) 6 2) = true := by decide +kernel
theorem wk8_1_0_1_1_1 : wk 8 3 6 4 (aw (aw (aw (aw (aw c0 1 1) 2 0) 3 1) 4 1) 5 1) = true := wk_c (fun v hv => by
  rcases (by omega : v = 0 ∨ v = 1 ∨ v = 2) with rfl | rfl | rfl
  · exact wk8_1_0_1_1_1_0
  · exact wk8_1_0_1_1_1_1
  · exact wk8_1_0_1_1_1_2)
theorem wk8_1_0_1_1_2_0 : wk 8 2 7 5 (aw (aw (aw (aw (aw (aw c0 1 1) 2 0) 3 1) 4 1) 5 2) 6 0) = true := by decide +kernel
theorem wk8_1_0_1_1_2_1 : wk 8 2 7 6 (aw (aw (aw (aw (aw (aw c0 1 1) 2 0) 3 1) 4 1) 5 2) 6 1) = true := by decide +kernel
theorem wk8_1_0_1_1_2 : wk 8 3 6 5 (aw (aw (aw (aw (aw c0 1 1) 2 0) 3 1) 4 1) 5 2) = true := wk_c (fun v hv => by
  rcases (by omega : v = 0 ∨ v = 1) with rfl | rfl
  · exact wk8_1_0_1_1_2_0
  · exact wk8_1_0_1_1_2_1)
theorem wk8_1_0_1_1 : wk 8 4 5 3 (aw (aw (aw (aw c0 1 1) 2 0) 3 1) 4 1) = true := wk_c (fun v hv => by
  rcases (by omega : v = 0 ∨ v = 1 ∨ v = 2) with rfl | rfl | rfl
  · exact wk8_1_0_1_1_0
  · exact wk8_1_0_1_1_1
  · exact wk8_1_0_1_1_2)
theorem wk8_1_0_1_2_0_0 : wk 8 2 7 4 (aw (aw (aw (aw (aw (aw c0 1 1) 2 0) 3 1) 4 2) 5 0) 6 0) = true := by decide +kernel
theorem wk8_1_0_1_2_0_1 : wk 8 2 7 5 (aw (aw (aw (aw (aw (aw c0 1 1) 2 0) 3 1) 4 2) 5 0) 6 1) = true := by decide +kernel
theorem wk8_1_0_1_2_0_2 : wk 8 2 7 6 (aw (aw (aw (aw (aw (aw c0 1 1) 2 0) 3 1) 4 2) 5 0) 6 2) = true := by decide +kernel
theorem wk8_1_0_1_2_0 : wk 8 3 6 4 (aw (aw (aw (aw (aw c0 1 1) 2 0) 3 1) 4 2) 5 0) = true := wk_c (fun v hv => by
  rcases (by omega : v = 0 ∨ v = 1 ∨ v = 2) with rfl | rfl | rfl
  · exact wk8_1_0_1_2_0_0
  · exact wk8_1_0_1_2_0_1
  · exact wk8_1_0_1_2_0_2)
theorem wk8_1_0_1_2_1_0 : wk 8 2 7 5 (aw (aw (aw (aw (aw (aw c0 1 1) 2 0) 3 1) 4 2) 5 1) 6 0) = true := by decide +kernel
theorem wk8_1_0_1_2_1_1 : wk 8 2 7 6 (aw (aw (aw (aw (aw (aw c0 1 1) 2 0) 3 1) 4 2) 5 1) 6 1) = true := by decide +kernel
theorem wk8_1_0_1_2_1 : wk 8 3 6 5 (aw (aw (aw (aw (aw c0 1 1) 2 0) 3 1) 4 2) 5 1) = true := wk_c (fun v hv => by
  rcases (by omega : v = 0 ∨ v = 1) with rfl | rfl
  · exact wk8_1_0_1_2_1_0
  · exact wk8_1_0_1_2_1_1)
theorem wk8_1_0_1_2 : wk 8 4 5 4 (aw (aw (aw (aw c0 1 1) 2 0) 3 1) 4 2) = true := wk_c (fun v hv => by
  rcases (by omega : v = 0 ∨ v = 1) with rfl | rfl
  · exact wk8_1_0_1_2_0
  · exact wk8_1_0_1_2_1)
theorem wk8_1_0_1 : wk 8 5 4 2 (aw (aw (aw c0 1 1) 2 0) 3 1) = true := wk_c (fun v hv => by
  rcases (by omega : v = 0 ∨ v = 1 ∨ v = 2) with rfl | rfl | rfl
  · exact wk8_1_0_1_0
  · exact wk8_1_0_1_1
  · exact wk8_1_0_1_2)
theorem wk8_1_0_2_0_0_0 : wk 8 2 7 3 (aw (aw (aw (aw (aw (aw c0 1 1) 2 0) 3 2) 4 0) 5 0) 6 0) = true := by decide +kernel
theorem wk8_1_0_2_0_0_1 : wk 8 2 7 4 (aw (aw (aw (aw (aw (aw c0 1 1) 2 0) 3 2) 4 0) 5 0) 6 1) = true := by decide +kernel
theorem wk8_1_0_2_0_0_2 : wk 8 2 7 5 (aw (aw (aw (aw (aw (aw c0 1 1) 2 0) 3 2) 4 0) 5 0) 6 2) = true := by decide +kernel
theorem wk8_1_0_2_0_0_3 : wk 8 2 7 6 (aw (aw (aw (aw (aw (aw c0 1 1) 2 0) 3 2) 4 0) 5 0) 6 3) = true := by decide +kernel
theorem wk8_1_0_2_0_0 : wk 8 3 6 3 (aw (aw (aw (aw (aw c0 1 1) 2 0) 3 2) 4 0) 5 0) = true := wk_c (fun v hv => by
  rcases (by omega : v = 0 ∨ v = 1 ∨ v = 2 ∨ v = 3) with rfl | rfl | rfl | rfl
  · exact wk8_1_0_2_0_0_0
  · exact wk8_1_0_2_0_0_1
  · exact wk8_1_0_2_0_0_2
  · exact wk8_1_0_2_0_0_3)
theorem wk8_1_0_2_0_1_0 : wk 8 2 7 4 (aw (aw (aw (aw (aw (aw c0 1 1) 2 0) 3 2) 4 0) 5 1) 6 0) = true := by decide +kernel
theorem wk8_1_0_2_0_1_1 : wk 8 2 7 5 (aw (aw (aw (aw (aw (aw c0 1 1) 2 0) 3 2) 4 0) 5 1) 6 1) = true := by decide +kernel
theorem wk8_1_0_2_0_1_2 : wk 8 2 7 6 (aw (aw (aw (aw (aw (aw c0 1 1) 2 0) 3 2) 4 0) 5 1) 6 2) = true := by decide +kernel
theorem wk8_1_0_2_0_1 : wk 8 3 6 4 (aw (aw (aw (aw (aw c0 1 1) 2 0) 3 2) 4 0) 5 1) = true := wk_c (fun v hv => by
  rcases (by omega : v = 0 ∨ v = 1 ∨ v = 2) with rfl | rfl | rfl
  · exact wk8_1_0_2_0_1_0
  · exact wk8_1_0_2_0_1_1
  · exact wk8_1_0_2_0_1_2)
theorem wk8_1_0_2_0_2_0 : wk 8 2 7 5 (aw (aw (aw (aw (aw (aw c0 1 1) 2 0) 3 2) 4 0) 5 2) 6 0) = true := by decide +kernel
theorem wk8_1_0_2_0_2_1 : wk 8 2 7 6 (aw (aw (aw (aw (aw (aw c0 1 1) 2 0) 3 2) 4 0) 5 2) 6 1) = true := by decide +kernel
theorem wk8_1_0_2_0_2 : wk 8 3 6 5 (aw (aw (aw (aw (aw c0 1 1) 2 0) 3 2) 4 0) 5 2) = true := wk_c (fun v hv => by
  rcases (by omega : v = 0 ∨ v = 1) with rfl | rfl
  · exact wk8_1_0_2_0_2_0
  · exact wk8_1_0_2_0_2_1)
theorem wk8_1_0_2_0 : wk 8 4 5 3 (aw (aw (aw (aw c0 1 1) 2 0) 3 2) 4 0) = true := wk_c (fun v hv => by
  rcases (by omega : v = 0 ∨ v = 1 ∨ v = 2) with rfl | rfl | rfl
  · exact wk8_1_0_2_0_0
  · exact wk8_1_0_2_0_1
  · exact wk8_1_0_2_0_2)
theorem wk8_1_0_2_1_0_0 : wk 8 2 7 4 (aw (aw (aw (aw (aw (aw c0 1 1) 2 0) 3 2) 4 1) 5 0) 6 0) = true := by decide +kernel
theorem wk8_1_0_2_1_0_1 : wk 8 2 7 5 (aw (aw (aw (aw (aw (aw c0 1 1) 2 0) 3 2) 4 1) 5 0) 6 1) = true := by decide +kernel
theorem wk8_1_0_2_1_0_2 : wk 8 2 7 6 (aw (aw (aw (aw (aw (aw c0 1 1) 2 0) 3 2) 4 1) 5 0) 6 2) = true := by decide +kernel
theorem wk8_1_0_2_1_0 : wk 8 3 6 4 (aw (aw (aw (aw (aw c0 1 1) 2 0) 3 2) 4 1) 5 0) = true := wk_c (fun v hv => by
  rcases (by omega : v = 0 ∨ v = 1 ∨ v = 2) with rfl | rfl | rfl
  · exact wk8_1_0_2_1_0_0
  · exact wk8_1_0_2_1_0_1
  · exact wk8_1_0_2_1_0_2)
theorem wk8_1_0_2_1_1_0 : wk 8 2 7 5 (aw (aw (aw (aw (aw (aw c0 1 1) 2 0) 3 2) 4 1) 5 1) 6 0) = true := by decide +kernel
theorem wk8_1_0_2_1_1_1 : wk 8 2 7 6 (aw (aw (aw (aw (aw (aw c0 1 1) 2 0) 3 2) 4 1) 5 1) 6 1) = true := by decide +kernel
theorem wk8_1_0_2_1_1 : wk 8 3 6 5 (aw (aw (aw (aw (aw c0 1 1) 2 0) 3 2) 4 1) 5 1) = true := wk_c (fun v hv => by
  rcases (by omega : v = 0 ∨ v = 1) with rfl | rfl
  · exact wk8_1_0_2_1_1_0
  · exact wk8_1_0_2_1_1_1)
theorem wk8_1_0_2_1 : wk 8 4 5 4 (aw (aw (aw (aw c0 1 1) 2 0) 3 2) 4 1) = true := wk_c (fun v hv => by
  rcases (by omega : v = 0 ∨ v = 1) with rfl | rfl
  · exact wk8_1_0_2_1_0
  · exact wk8_1_0_2_1_1)
theorem wk8_1_0_2 : wk 8 5 4 3 (aw (aw (aw c0 1 1) 2 0) 3 2) = true := wk_c (fun v hv => by
  rcases (by omega : v = 0 ∨ v = 1) with rfl | rfl
  · exact wk8_1_0_2_0
  · exact wk8_1_0_2_1)
theorem wk8_1_0 : wk 8 6 3 1 (aw (aw c0 1 1) 2 0) = true := wk_c (fun v hv => by
  rcases (by omega : v = 0 ∨ v = 1 ∨ v = 2) with rfl | rfl | rfl
  · exact wk8_1_0_0
  · exact wk8_1_0_1
  · exact wk8_1_0_2)
theorem wk8_1_1_0_0_0_0 : wk 8 2 7 2 (aw (aw (aw (aw (aw (aw c0 1 1) 2 1) 3 0) 4 0) 5 0) 6 0) = true := by decide +kernel
theorem wk8_1_1_0_0_0_1 : wk 8 2 7 3 (aw (aw (aw (aw (aw (aw c0 1 1) 2 1) 3 0) 4 0) 5 0) 6 1) = true := by decide +kernel
theorem wk8_1_1_0_0_0_2 : wk 8 2 7 4 (aw (aw (aw (aw (aw (aw c0 1 1) 2 1) 3 0) 4 0) 5 0) 6 2) = true := by decide +kernel
theorem wk8_1_1_0_0_0_3 : wk 8 2 7 5 (aw (aw (aw (aw (aw (aw c0 1 1) 2 1) 3 0) 4 0) 5 0) 6 3) = true := by decide +kernel
theorem wk8_1_1_0_0_0_4 : wk 8 2 7 6 (aw (aw (aw (aw (aw (aw c0 1 1) 2 1) 3 0) 4 0) 5 0) 6 4) = true := by decide +kernel
theorem wk8_1_1_0_0_0 : wk 8 3 6 2 (aw (aw (aw (aw (aw c0 1 1) 2 1) 3 0) 4 0) 5 0) = true := wk_c (fun v hv => by
  rcases (by omega : v = 0 ∨ v = 1 ∨ v = 2 ∨ v = 3 ∨ v = 4) with rfl | rfl | rfl | rfl | rfl
  · exact wk8_1_1_0_0_0_0
  · exact wk8_1_1_0_0_0_1
  · exact wk8_1_1_0_0_0_2
  · exact wk8_1_1_0_0_0_3
  · exact wk8_1_1_0_0_0_4)
theorem wk8_1_1_0_0_1_0 : wk 8 2 7 3 (aw (aw (aw (aw (aw (aw c0 1 1) 2 1) 3 0) 4 0) 5 1) 6 0) = true := by decide +kernel
theorem wk8_1_1_0_0_1_1 : wk 8 2 7 4 (aw (aw (aw (aw (aw (aw c0 1 1) 2 1) 3 0) 4 0) 5 1) 6 1) = true := by decide +kernel
theorem wk8_1_1_0_0_1_2 : wk 8 2 7 5 (aw (aw (aw (aw (aw (aw c0 1 1) 2 1) 3 0) 4 0) 5 1) 6 2) = true := by decide +kernel
theorem wk8_1_1_0_0_1_3 : wk 8 2 7 6 (aw (aw (aw (aw (aw (aw c0 1 1) 2 1) 3 0) 4 0) 5 1) 6 3) = true := by decide +kernel
theorem wk8_1_1_0_0_1 : wk 8 3 6 3 (aw (aw (aw (aw (aw c0 1 1) 2 1) 3 0) 4 0) 5 1) = true := wk_c (fun v hv => by
  rcases (by omega : v = 0 ∨ v = 1 ∨ v = 2 ∨ v = 3) with rfl | rfl | rfl | rfl
  · exact wk8_1_1_0_0_1_0
  · exact wk8_1_1_0_0_1_1
  · exact wk8_1_1_0_0_1_2
  · exact wk8_1_1_0_0_1_3)
theorem wk8_1_1_0_0_2_0 : wk 8 2 7 4 (aw (aw (aw (aw (aw (aw c0 1 1) 2 1) 3 0) 4 0) 5 2) 6 0) = true := by decide +kernel
theorem wk8_1_1_0_0_2_1 : wk 8 2 7 5 (aw (aw (aw (aw (aw (aw c0 1 1) 2 1) 3 0) 4 0) 5 2) 6 1) = true := by decide +kernel
theorem wk8_1_1_0_0_2_2 : wk 8 2 7 6 (aw (aw (aw (aw (aw (aw c0 1 1) 2 1) 3 0) 4 0) 5 2) 6 2) = true := by decide +kernel
theorem wk8_1_1_0_0_2 : wk 8 3 6 4 (aw (aw (aw (aw (aw c0 1 1) 2 1) 3 0) 4 0) 5 2) = true := wk_c (fun v hv => by
  rcases (by omega : v = 0 ∨ v = 1 ∨ v = 2) with rfl | rfl | rfl
  · exact wk8_1_1_0_0_2_0
  · exact wk8_1_1_0_0_2_1
  · exact wk8_1_1_0_0_2_2)
theorem wk8_1_1_0_0_3_0 : wk 8 2 7 5 (aw (aw (aw (aw (aw (aw c0 1 1) 2 1) 3 0) 4 0) 5 3) 6 0) = true := by decide +kernel
theorem wk8_1_1_0_0_3_1 : wk 8 2 7 6 (aw (aw (aw (aw (aw (aw c0 1 1) 2 1) 3 0) 4 0) 5 3) 6 1) = true := by decide +kernel
theorem wk8_1_1_0_0_3 : wk 8 3 6 5 (aw (aw (aw (aw (aw c0 1 1) 2 1) 3 0) 4 0) 5 3) = true := wk_c (fun v hv => by
  rcases (by omega : v = 0 ∨ v = 1) with rfl | rfl
  · exact wk8_1_1_0_0_3_0
  · exact wk8_1_1_0_0_3_1)
theorem wk8_1_1_0_0 : wk 8 4 5 2 (aw (aw (aw (aw c0 1 1) 2 1) 3 0) 4 0) = true := wk_c (fun v hv => by
  rcases (by omega : v = 0 ∨ v = 1 ∨ v = 2 ∨ v = 3) with rfl | rfl | rfl | rfl
  · exact wk8_1_1_0_0_0
  · exact wk8_1_1_0_0_1
  · exact wk8_1_1_0_0_2
  · exact wk8_1_1_0_0_3)
theorem wk8_1_1_0_1_0_0 : wk 8 2 7 3 (aw (aw (aw (aw (aw (aw c0 1 1) 2 1) 3 0) 4 1) 5 0) 6 0) = true := by decide +kernel
theorem wk8_1_1_0_1_0_1 : wk 8 2 7 4 (aw (aw (aw (aw (aw (aw c0 1 1) 2 1) 3 0) 4 1) 5 0) 6 1) = true := by decide +kernel
theorem wk8_1_1_0_1_0_2 : wk 8 2 7 5 (aw (aw (aw (aw (aw (aw c0 1 1) 2 1) 3 0) 4 1) 5 0) 6 2) = true := by decide +kernel
theorem wk8_1_1_0_1_0_3 : wk 8 2 7 6 (aw (aw (aw (aw (aw (aw c0 1 1) 2 1) 3 0) 4 1) 5 0) 6 3) = true := by decide +kernel
theorem wk8_1_1_0_1_0 : wk 8 3 6 3 (aw (aw (aw (aw (aw c0 1 1) 2 1) 3 0) 4 1) 5 0) = true := wk_c (fun v hv => by
  rcases (by omega : v = 0 ∨ v = 1 ∨ v = 2 ∨ v = 3) with rfl | rfl | rfl | rfl
  · exact wk8_1_1_0_1_0_0
  · exact wk8_1_1_0_1_0_1
  · exact wk8_1_1_0_1_0_2
  · exact wk8_1_1_0_1_0_3)
theorem wk8_1_1_0_1_1_0 : wk 8 2 7 4 (aw (aw (aw (aw (aw (aw c0 1 1) 2 1) 3 0) 4 1) 5 1) 6 0) = true := by decide +kernel
theorem wk8_1_1_0_1_1_1 : wk 8 2 7 5 (aw (aw (aw (aw (aw (aw c0 1 1) 2 1) 3 0) 4 1) 5 1) 6 1) = true := by decide +kernel
theorem wk8_1_1_0_1_1_2 : wk 8 2 7 6 (aw (aw (aw (aw (aw (aw c0 1 1) 2 1) 3 0) 4 1) 5 1) 6 2) = true := by decide +kernel
theorem wk8_1_1_0_1_1 : wk 8 3 6 4 (aw (aw (aw (aw (aw c0 1 1) 2 1) 3 0) 4 1) 5 1) = true := wk_c (fun v hv => by
  rcases (by omega : v = 0 ∨ v = 1 ∨ v = 2) with rfl | rfl | rfl
  · exact wk8_1_1_0_1_1_0
  · exact wk8_1_1_0_1_1_1
  · exact wk8_1_1_0_1_1_2)
theorem wk8_1_1_0_1_2_0 : wk 8 2 7 5 (aw (aw (aw (aw (aw (aw c0 1 1) 2 1) 3 0) 4 1) 5 2) 6 0) = true := by decide +kernel
theorem wk8_1_1_0_1_2_1 : wk 8 2 7 6 (aw (aw (aw (aw (aw (aw c0 1 1) 2 1) 3 0) 4 1) 5 2) 6 1) = true := by decide +kernel
theorem wk8_1_1_0_1_2 : wk 8 3 6 5 (aw (aw (aw (aw (aw c0 1 1) 2 1) 3 0) 4 1) 5 2) = true := wk_c (fun v hv => by
  rcases (by omega : v = 0 ∨ v = 1) with rfl | rfl
  · exact wk8_1_1_0_1_2_0
  · exact wk8_1_1_0_1_2_1)
theorem wk8_1_1_0_1 : wk 8 4 5 3 (aw (aw (aw (aw c0 1 1) 2 1) 3 0) 4 1) = true := wk_c (fun v hv => by
  rcases (by omega : v = 0 ∨ v = 1 ∨ v = 2) with rfl | rfl | rfl
  · exact wk8_1_1_0_1_0
  · exact wk8_1_1_0_1_1
  · exact wk8_1_1_0_1_2)
theorem wk8_1_1_0_2_0_0 : wk 8 2 7 4 (aw (aw (aw (aw (aw (aw c0 1 1) 2 1) 3 0) 4 2) 5 0) 6 0) = true := by decide +kernel
theorem wk8_1_1_0_2_0_1 : wk 8 2 7 5 (aw (aw (aw (aw (aw (aw c0 1 1) 2 1) 3 0) 4 2) 5 0) 6 1) = true := by decide +kernel
theorem wk8_1_1_0_2_0_2 : wk 8 2 7 6 (aw (aw (aw (aw (aw (aw c0 1 1) 2 1) 3 0) 4 2) 5 0) 6 2) = true := by decide +kernel
theorem wk8_1_1_0_2_0 : wk 8 3 6 4 (aw (aw (aw (aw (aw c0 1 1) 2 1) 3 0) 4 2) 5 0) = true := wk_c (fun v hv => by
  rcases (by omega : v = 0 ∨ v = 1 ∨ v = 2) with rfl | rfl | rfl
  · exact wk8_1_1_0_2_0_0
  · exact wk8_1_1_0_2_0_1
  · exact wk8_1_1_0_2_0_2)
theorem wk8_1_1_0_2_1_0 : wk 8 2 7 5 (aw (aw (aw (aw (aw (aw c0 1 1) 2 1) 3 0) 4 2) 5 1) 6 0) = true := by decide +kernel
theorem wk8_1_1_0_2_1_1 : wk 8 2 7 6 (aw (aw (aw (aw (aw (aw c0 1 1) 2 1) 3 0) 4 2) 5 1) 6 1) = true := by decide +kernel
theorem wk8_1_1_0_2_1 : wk 8 3 6 5 (aw (aw (aw (aw (aw c0 1 1) 2 1) 3 0) 4 2) 5 1) = true := wk_c (fun v hv => by
  rcases (by omega : v = 0 ∨ v = 1) with rfl | rfl
  · exact wk8_1_1_0_2_1_0
  · exact wk8_1_1_0_2_1_1)
theorem wk8_1_1_0_2 : wk 8 4 5 4 (aw (aw (aw (aw c0 1 1) 2 1) 3 0) 4 2) = true := wk_c (fun v hv => by
  rcases (by omega : v = 0 ∨ v = 1) with rfl | rfl
  · exact wk8_1_1_0_2_0
  · exact wk8_1_1_0_2_1)
theorem wk8_1_1_0 : wk 8 5 4 2 (aw (aw (aw c0 1 1) 2 1) 3 0) = true := wk_c (fun v hv => by
  rcases (by omega : v = 0 ∨ v = 1 ∨ v = 2) with rfl | rfl | rfl
  · exact wk8_1_1_0_0
  · exact wk8_1_1_0_1
  · exact wk8_1_1_0_2)
theorem wk8_1_1_1_0_0_0 : wk 8 2 7 3 (aw (aw (aw (aw (aw (aw c0 1 1) 2 1) 3 1) 4 0) 5 0) 6 0) = true := by decide +kernel
theorem wk8_1_1_1_0_0_1 : wk 8 2 7 4 (aw (aw (aw (aw (aw (aw c0 1 1) 2 1) 3 1) 4 0) 5 0) 6 1) = true := by decide +kernel
theorem wk8_1_1_1_0_0_2 : wk 8 2 7 5 (aw (aw (aw (aw (aw (aw c0 1 1) 2 1) 3 1) 4 0) 5 0) 6 2) = true := by decide +kernel
theorem wk8_1_1_1_0_0_3 : wk 8 2 7 6 (aw (aw (aw (aw (aw (aw c0 1 1) 2 1) 3 1) 4 0) 5 0) 6 3) = true := by decide +kernel
theorem wk8_1_1_1_0_0 : wk 8 3 6 3 (aw (aw (aw (aw (aw c0 1 1) 2 1) 3 1) 4 0) 5 0) = true := wk_c (fun v hv => by
  rcases (by omega : v = 0 ∨ v = 1 ∨ v = 2 ∨ v = 3) with rfl | rfl | rfl | rfl
  · exact wk8_1_1_1_0_0_0
  · exact wk8_1_1_1_0_0_1
  · exact wk8_1_1_1_0_0_2
  · exact wk8_1_1_1_0_0_3)
theorem wk8_1_1_1_0_1_0 : wk 8 2 7 4 (aw (aw (aw (aw (aw (aw c0 1 1) 2 1) 3 1) 4 0) 5 1) 6 0) = true := by decide +kernel
theorem wk8_1_1_1_0_1_1 : wk 8 2 7 5 (aw (aw (aw (aw (aw (aw c0 1 1) 2 1) 3 1) 4 0) 5 1) 6 1) = true := by decide +kernel
theorem wk8_1_1_1_0_1_2 : wk 8 2 7 6 (aw (aw (aw (aw (aw (aw c0 1 1) 2 1) 3 1) 4 0) 5 1) 6 2) = true := by decide +kernel
theorem wk8_1_1_1_0_1 : wk 8 3 6 4 (aw (aw (aw (aw (aw c0 1 1) 2 1) 3 1) 4 0) 5 1) = true := wk_c (fun v hv => by
  rcases (by omega : v = 0 ∨ v = 1 ∨ v = 2) with rfl | rfl | rfl
  · exact wk8_1_1_1_0_1_0
  · exact wk8_1_1_1_0_1_1
  · exact wk8_1_1_1_0_1_2)
theorem wk8_1_1_1_0_2_0 : wk 8 2 7 5 (aw (aw (aw (aw (aw (aw c0 1 1) 2 1) 3 1) 4 0) 5 2) 6 0) = true := by decide +kernel
theorem wk8_1_1_1_0_2_1 : wk 8 2 7 6 (aw (aw (aw (aw (aw (aw c0 1 1) 2 1) 3 1) 4 0) 5 2) 6 1) = true := by decide +kernel
theorem wk8_1_1_1_0_2 : wk 8 3 6 5 (aw (aw (aw (aw (aw c0 1 1) 2 1) 3 1) 4 0) 5 2) = true := wk_c (fun v hv => by
  rcases (by omega : v = 0 ∨ v = 1) with rfl | rfl
  · exact wk8_1_1_1_0_2_0
  · exact wk8_1_1_1_0_2_1)
theorem wk8_1_1_1_0 : wk 8 4 5 3 (aw (aw (aw (aw c0 1 1) 2 1) 3 1) 4 0) = true := wk_c (fun v hv => by
  rcases (by omega : v = 0 ∨ v = 1 ∨ v = 2) with rfl | rfl | rfl
  · exact wk8_1_1_1_0_0
  · exact wk8_1_1_1_0_1
  · exact wk8_1_1_1_0_2)
theorem wk8_1_1_1_1_0_0 : wk 8 2 7 4 (aw (aw (aw (aw (aw (aw c0 1 1) 2 1) 3 1) 4 1) 5 0) 6 0) = true := by decide +kernel
theorem wk8_1_1_1_1_0_1 : wk 8 2 7 5 (aw (aw (aw (aw (aw (aw c0 1 1) 2 1) 3 1) 4 1) 5 0) 6 1) = true := by decide +kernel
theorem wk8_1_1_1_1_0_2 : wk 8 2 7 6 (aw (aw (aw (aw (aw (aw c0 1 1) 2 1) 3 1) 4 1) 5 0) 6 2) = true := by decide +kernel
theorem wk8_1_1_1_1_0 : wk 8 3 6 4 (aw (aw (aw (aw (aw c0 1 1) 2 1) 3 1) 4 1) 5 0) = true := wk_c (fun v hv => by
  rcases (by omega : v = 0 ∨ v = 1 ∨ v = 2) with rfl | rfl | rfl
  · exact wk8_1_1_1_1_0_0
  · exact wk8_1_1_1_1_0_1
  · exact wk8_1_1_1_1_0_2)
theorem wk8_1_1_1_1_1_0 : wk 8 2 7 5 (aw (aw (aw (aw (aw (aw c0 1 1) 2 1) 3 1) 4 1) 5 1) 6 0) = true := by decide +kernel
theorem wk8_1_1_1_1_1_1 : wk 8 2 7 6 (aw (aw (aw (aw (aw (aw c0 1 1) 2 1) 3 1) 4 1) 5 1) 6 1) = true := by decide +kernel
theorem wk8_1_1_1_1_1 : wk 8 3 6 5 (aw (aw (aw (aw (aw c0 1 1) 2 1) 3 1) 4 1) 5 1) = true := wk_c (fun v hv => by
  rcases (by omega : v = 0 ∨ v = 1) with rfl | rfl
  · exact wk8_1_1_1_1_1_0
  · exact wk8_1_1_1_1_1_1)
theorem wk8_1_1_1_1 : wk 8 4 5 4 (aw (aw (aw (aw c0 1 1) 2 1) 3 1) 4 1) = true := wk_c (fun v hv => by
  rcases (by omega : v = 0 ∨ v = 1) with rfl | rfl
  · exact wk8_1_1_1_1_0
  · exact wk8_1_1_1_1_1)
theorem wk8_1_1_1 : wk 8 5 4 3 (aw (aw (aw c0 1 1) 2 1) 3 1) = true := wk_c (fun v hv => by
  rcases (by omega : v = 0 ∨ v = 1) with rfl | rfl
  · exact wk8_1_1_1_0
  · exact wk8_1_1_1_1)
theorem wk8_1_1 : wk 8 6 3 2 (aw (aw c0 1 1) 2 1) = true := wk_c (fun v hv => by
  rcases (by omega : v = 0 ∨ v = 1) with rfl | rfl
  · exact wk8_1_1_0
  · exact wk8_1_1_1)
theorem wk8_1 : wk 8 7 2 1 (aw c0 1 1) = true := wk_c (fun v hv => by
  rcases (by omega : v = 0 ∨ v = 1) with rfl | rfl
  · exact wk8_1_0
  · exact wk8_1_1)
theorem wk8 : wk 8 8 1 0 (c0) = true := wk_c (fun v hv => by
  rcases (by omega : v = 0 ∨ v = 1) with rfl | rfl
  · exact wk8_0
  · exact wk8_1)
theorem wk9_0_0_0_0_0_0_0 : wk 9 2 8 0 (aw (aw (aw (aw (aw (aw (aw c0 1 0) 2 0) 3 0) 4 0) 5 0) 6 0) 7 0) = true := by decide +kernel
theorem wk9_0_0_0_0_0_0_1 : wk 9 2 8 1 (aw (aw (aw (aw (aw (aw (aw c0 1 0) 2 0) 3 0) 4 0) 5 0) 6 0) 7 1) = true := by decide +kernel
theorem wk9_0_0_0_0_0_0_2 : wk 9 2 8 2 (aw (aw (aw (aw (aw (aw (aw c0 1 0) 2 0) 3 0) 4 0) 5 0) 6 0) 7 2) = true := by decide +kernel
theorem wk9_0_0_0_0_0_0_3 : wk 9 2 8 3 (aw (aw (aw (aw (aw (aw (aw c0 1 0) 2 0) 3 0) 4 0) 5 0) 6 0) 7 3) = true := by decide +kernel
theorem wk9_0_0_0_0_0_0_4 : wk 9 2 8 4 (aw (aw (aw (aw (aw (aw (aw c0 1 0) 2 0) 3 0) 4 0) 5 0) 6 0) 7 4) = true := by decide +kernel
theorem wk9_0_0_0_0_0_0_5 : wk 9 2 8 5 (aw (aw (aw (aw (aw (aw (aw c0 1 0) 2 0) 3 0) 4 0) 5 0) 6 0) 7 5) = true := by decide +kernel
theorem wk9_0_0_0_0_0_0_6 : wk 9 2 8 6 (aw (aw (aw (aw (aw (aw (aw c0 1 0) 2 0) 3 0) 4 0) 5 0) 6 0) 7 6) = true := by decide +kernel
theorem wk9_0_0_0_0_0_0_7 : wk 9 2 8 7 (aw (aw (aw (aw (aw (aw (aw c0 1 0) 2 0) 3 0) 4 0) 5 0) 6 0) 7 7) = true := by decide +kernel
theorem wk9_0_0_0_0_0_0 : wk 9 3 7 0 (aw (aw (aw (aw (aw (aw c0 1 0) 2 0) 3 0) 4 0) 5 0) 6 0) = true := wk_c (fun v hv => by
  rcases (by omega : v = 0 ∨ v = 1 ∨ v = 2 ∨ v = 3 ∨ v = 4 ∨ v = 5 ∨ v = 6 ∨ v = 7) with rfl | rfl | rfl | rfl | rfl | rfl | rfl | rfl
  · exact wk9_0_0_0_0_0_0_0
  · exact wk9_0_0_0_0_0_0_1
  · exact wk9_0_0_0_0_0_0_2
  · exact wk9_0_0_0_0_0_0_3
  · exact wk9_0_0_0_0_0_0_4
  · exact wk9_0_0_0_0_0_0_5
  · exact wk9_0_0_0_0_0_0_6
  · exact wk9_0_0_0_0_0_0_7)
theorem wk9_0_0_0_0_0_1_0 : wk 9 2 8 1 (aw (aw (aw (aw (aw (aw (aw c0 1 0) 2 0) 3 0) 4 0) 5 0) 6 1) 7 0) = true := by decide +kernel
theorem wk9_0_0_0_0_0_1_1 : wk 9 2 8 2 (aw (aw (aw (aw (aw (aw (aw c0 1 0) 2 0) 3 0) 4 0) 5 0) 6 1) 7 1) = true := by decide +kernel
theorem wk9_0_0_0_0_0_1_2 : wk 9 2 8 3 (aw (aw (aw (aw (aw (aw (aw c0 1 0) 2 0) 3 0) 4 0) 5 0) 6 1) 7 2) = true := by decide +kernel
theorem wk9_0_0_0_0_0_1_3 : wk 9 2 8 4 (aw (aw (aw (aw (aw (aw (aw c0 1 0) 2 0) 3 0) 4 0) 5 0) 6 1) 7 3) = true := by decide +kernel
theorem wk9_0_0_0_0_0_1_4 : wk 9 2 8 5 (aw (aw (aw (aw (aw (aw (aw c0 1 0) 2 0) 3 0) 4 0) 5 0) 6 1) 7 4) = true := by decide +kernel
theorem wk9_0_0_0_0_0_1_5 : wk 9 2 8 6 (aw (aw (aw (aw (aw (aw (aw c0 1 0) 2 0) 3 0) 4 0) 5 0) 6 1) 7 5) = true := by decide +kernel
theorem wk9_0_0_0_0_0_1_6 : wk 9 2 8 7 (aw (aw (aw (aw (aw (aw (aw c0 1 0) 2 0) 3 0) 4 0) 5 0) 6 1) 7 6) = true := by decide +kernel
theorem wk9_0_0_0_0_0_1 : wk 9 3 7 1 (aw (aw (aw (aw (aw (aw c0 1 0) 2 0) 3 0) 4 0) 5 0) 6 1) = true := wk_c (fun v hv => by
  rcases (by omega : v = 0 ∨ v = 1 ∨ v = 2 ∨ v = 3 ∨ v = 4 ∨ v = 5 ∨ v = 6) with rfl | rfl | rfl | rfl | rfl | rfl | rfl
  · exact wk9_0_0_0_0_0_1_0
  · exact wk9_0_0_0_0_0_1_1
  · exact wk9_0_0_0_0_0_1_2
  · exact wk9_0_0_0_0_0_1_3
  · exact wk9_0_0_0_0_0_1_4
  · exact wk9_0_0_0_0_0_1_5
  · exact wk9_0_0_0_0_0_1_6)
theorem wk9_0_0_0_0_0_2_0 : wk 9 2 8 2 (aw (aw (aw (aw (aw (aw (aw c0 1 0) 2 0) 3 0) 4 0) 5 0) 6 2) 7 0) = true := by decide +kernel
theorem wk9_0_0_0_0_0_2_1 : wk 9 2 8 3 (aw (aw (aw (aw (aw (aw (aw c0 1 0) 2 0) 3 0) 4 0) 5 0) 6 2) 7 1) = true := by decide +kernel
theorem wk9_0_0_0_0_0_2_2 : wk 9 2 8 4 (aw (aw (aw (aw (aw (aw (aw c0 1 0) 2 0) 3 0) 4 0) 5 0) 6 2) 7 2) = true := by decide +kernel
theorem wk9_0_0_0_0_0_2_3 : wk 9 2 8 5 (aw (aw (aw (aw (aw (aw (aw c0 1 0) 2 0) 3 0) 4 0) 5 0) 6 2) 7 3) = true := by decide +kernel
theorem wk9_0_0_0_0_0_2_4 : wk 9 2 8 6 (aw (aw (aw (aw (aw (aw (aw c0 1 0) 2 0) 3 0) 4 0) 5 0) 6 2) 7 4) = true := by decide +kernel
theorem wk9_0_0_0_0_0_2_5 : wk 9 2 8 7 (aw (aw (aw (aw (aw (aw (aw c0 1 0) 2 0) 3 0) 4 0) 5 0) 6 2) 7 5) = true := by decide +kernel
theorem wk9_0_0_0_0_0_2 : wk 9 3 7 2 (aw (aw (aw (aw (aw (aw c0 1 0) 2 0) 3 0) 4 0) 5 0) 6 2) = true := wk_c (fun v hv => by
  rcases (by omega : v = 0 ∨ v = 1 ∨ v = 2 ∨ v = 3 ∨ v = 4 ∨ v = 5) with rfl | rfl | rfl | rfl | rfl | rfl
  · exact wk9_0_0_0_0_0_2_0
  · exact wk9_0_0_0_0_0_2_1
  · exact wk9_0_0_0_0_0_2_2
  · exact wk9_0_0_0_0_0_2_3
  · exact wk9_0_0_0_0_0_2_4
  · exact wk9_0_0_0_0_0_2_5)
theorem wk9_0_0_0_0_0_3_0 : wk 9 2 8 3 (aw (aw (aw (aw (aw (aw (aw c0 1 0) 2 0) 3 0) 4 0) 5 0) 6 3) 7 0) = true := by decide +kernel
theorem wk9_0_0_0_0_0_3_1 : wk 9 2 8 4 (aw (aw (aw (aw (aw (aw (aw c0 1 0) 2 0) 3 0) 4 0) 5 0) 6 3) 7 1) = true := by decide +kernel
theorem wk9_0_0_0_0_0_3_2 : wk 9 2 8 5 (aw (aw (aw (aw (aw (aw (aw c0 1 0) 2 0) 3 0) 4 0) 5 0) 6 3) 7 2) = true := by decide +kernel
theorem wk9_0_0_0_0_0_3_3 : wk 9 2 8 6 (aw (aw (aw (aw (aw (aw (aw c0 1 0) 2 0) 3 0) 4 0) 5 0) 6 3) 7 3) = true := by decide +kernel
theorem wk9_0_0_0_0_0_3_4 : wk 9 2 8 7 (aw (aw (aw (aw (aw (aw (aw c0 1 0) 2 0) 3 0) 4 0) 5 0) 6 3) 7 4) = true := by decide +kernel
theorem wk9_0_0_0_0_0_3 : wk 9 3 7 3 (aw (aw (aw (aw (aw (aw c0 1 0) 2 0) 3 0) 4 0) 5 0) 6 3) = true := wk_c (fun v hv => by
  rcases (by omega : v = 0 ∨ v = 1 ∨ v = 2 ∨ v = 3 ∨ v = 4) with rfl | rfl | rfl | rfl | rfl
  · exact wk9_0_0_0_0_0_3_0
  · exact wk9_0_0_0_0_0_3_1
  · exact wk9_0_0_0_0_0_3_2
  · exact wk9_0_0_0_0_0_3_3
  · exact wk9_0_0_0_0_0_3_4)
theorem wk9_0_0_0_0_0_4_0 : wk 9 2 8 4 (aw (aw (aw (aw (aw (aw (aw c0 1 0) 2 0) 3 0) 4 0) 5 0) 6 4) 7 0) = true := by decide +kernel
theorem wk9_0_0_0_0_0_4_1 : wk 9 2 8 5 (aw (aw (aw (aw (aw (aw (aw c0 1 0) 2 0) 3 0) 4 0) 5 0) 6 4) 7 1) = true := by decide +kernel
theorem wk9_0_0_0_0_0_4_2 : wk 9 2 8 6 (aw (aw (aw (aw (aw (aw (aw c0 1 0) 2 0) 3 0) 4 0) 5 0) 6 4) 7 2) = true := by decide +kernel
theorem wk9_0_0_0_0_0_4_3 : wk 9 2 8 7 (aw (aw (aw (aw (aw (aw (aw c0 1 0) 2 0) 3 0) 4 0) 5 0) 6 4) 7 3) = true := by decide +kernel
theorem wk9_0_0_0_0_0_4 : wk 9 3 7 4 (aw (aw (aw (aw (aw (aw c0 1 0) 2 0) 3 0) 4 0) 5 0) 6 4) = true := wk_c (fun v hv => by
  rcases (by omega : v = 0 ∨ v = 1 ∨ v = 2 ∨ v = 3) with rfl | rfl | rfl | rfl
  · exact wk9_0_0_0_0_0_4_0
  · exact wk9_0_0_0_0_0_4_1
  · exact wk9_0_0_0_0_0_4_2
  · exact wk9_0_0_0_0_0_4_3)
theorem wk9_0_0_0_0_0_5_0 : wk 9 2 8 5 (aw (aw (aw (aw (aw (aw (aw c0 1 0) 2 0) 3 0) 4 0) 5 0) 6 5) 7 0) = true := by decide +kernel
theorem wk9_0_0_0_0_0_5_1 : wk 9 2 8 6 (aw (aw (aw (aw (aw (aw (aw c0 1 0) 2 0) 3 0) 4 0) 5 0) 6 5) 7 1) = true := by decide +kernel
theorem wk9_0_0_0_0_0_5_2 : wk 9 2 8 7 (aw (aw (aw (aw (aw (aw (aw c0 1 0) 2 0) 3 0) 4 0) 5 0) 6 5) 7 2) = true := by decide +kernel
theorem wk9_0_0_0_0_0_5 : wk 9 3 7 5 (aw (aw (aw (aw (aw (aw c0 1 0) 2 0) 3 0) 4 0) 5 0) 6 5) = true := wk_c (fun v hv => by
  rcases (by omega : v = 0 ∨ v = 1 ∨ v = 2) with rfl | rfl | rfl
  · exact wk9_0_0_0_0_0_5_0
  · exact wk9_0_0_0_0_0_5_1
  · exact wk9_0_0_0_0_0_5_2)
theorem wk9_0_0_0_0_0_6_0 : wk 9 2 8 6 (aw (aw (aw (aw (aw (aw (aw c0 1 0) 2 0) 3 0) 4 0) 5 0) 6 6) 7 0) = true := by decide +kernel
theorem wk9_0_0_0_0_0_6_1 : wk 9 2 8 7 (aw (aw (aw (aw (aw (aw (aw c0 1 0) 2 0) 3 0) 4 0) 5 0) 6 6) 7 1) = true := by decide +kernel
theorem wk9_0_0_0_0_0_6 : wk 9 3 7 6 (aw (aw (aw (aw (aw (aw c0 1 0) 2 0) 3 0) 4 0) 5 0) 6 6) = true := wk_c (fun v hv => by
  rcases (by omega : v = 0 ∨ v = 1) with rfl | rfl
  · exact wk9_0_0_0_0_0_6_0
  · exact wk9_0_0_0_0_0_6_1)
theorem wk9_0_0_0_0_0 : wk 9 4 6 0 (aw (aw (aw (aw (aw c0 1 0) 2 0) 3 0) 4 0) 5 0) = true := wk_c (fun v hv => by
  rcases (by omega : v = 0 ∨ v = 1 ∨ v = 2 ∨ v = 3 ∨ v = 4 ∨ v = 5 ∨ v = 6) with rfl | rfl | rfl | rfl | rfl | rfl | rfl
  · exact wk9_0_0_0_0_0_0
  · exact wk9_0_0_0_0_0_1
  · exact wk9_0_0_0_0_0_2
  · exact wk9_0_0_0_0_0_3
  · exact wk9_0_0_0_0_0_4
  · exact wk9_0_0_0_0_0_5
  · exact wk9_0_0_0_0_0_6)
theorem wk9_0_0_0_0_1_0_0 : wk 9 2 8 1 (aw (aw (aw (aw (aw (aw (aw c0 1 0) 2 0) 3 0) 4 0) 5 1) 6 0) 7 0) = true := by decide +kernel
theorem wk9_0_0_0_0_1_0_1 : wk 9 2 8 2 (aw (aw (aw (aw (aw (aw (aw c0 1 0) 2 0) 3 0) 4 0) 5 1) 6 0) 7 1) = true := by decide +kernel
theorem wk9_0_0_0_0_1_0_2 : wk 9 2 8 3 (aw (aw (aw (aw (aw (aw (aw c0 1 0) 2 0) 3 0) 4 0) 5 1) 6 0) 7 2) = true := by decide +kernel
theorem wk9_0_0_0_0_1_0_3 : wk 9 2 8 4 (aw (aw (aw (aw (aw (aw (aw c0 1 0) 2 0) 3 0) 4 0) 5 1) 6 0) 7 3) = true := by decide +kernel
theorem wk9_0_0_0_0_1_0_4 : wk 9 2 8 5 (aw (aw (aw (aw (aw (aw (aw c0 1 0) 2 0) 3 0) 4 0) 5 1) 6 0) 7 4) = true := by decide +kernel
theorem wk9_0_0_0_0_1_0_5 : wk 9 2 8 6 (aw (aw (aw (aw (aw (aw (aw c0 1 0) 2 0) 3 0) 4 0) 5 1) 6 0) 7 5) = true := by decide +kernel
theorem wk9_0_0_0_0_1_0_6 : wk 9 2 8 7 (aw (aw (aw (aw (aw (aw (aw c0 1 0) 2 0) 3 0) 4 0) 5 1) 6 0) 7 6) = true := by decide +kernel
theorem wk9_0_0_0_0_1_0 : wk 9 3 7 1 (aw (aw (aw (aw (aw (aw c0 1 0) 2 0) 3 0) 4 0) 5 1) 6 0) = true := wk_c (fun v hv => by
  rcases (by omega : v = 0 ∨ v = 1 ∨ v = 2 ∨ v = 3 ∨ v = 4 ∨ v = 5 ∨ v = 6) with rfl | rfl | rfl | rfl | rfl | rfl | rfl
  · exact wk9_0_0_0_0_1_0_0
  · exact wk9_0_0_0_0_1_0_1
  · exact wk9_0_0_0_0_1_0_2
  · exact wk9_0_0_0_0_1_0_3
  · exact wk9_0_0_0_0_1_0_4
  · exact wk9_0_0_0_0_1_0_5
  · exact wk9_0_0_0_0_1_0_6)
theorem wk9_0_0_0_0_1_1_0 : wk 9 2 8 2 (aw (aw (aw (aw (aw (aw (aw c0 1 0) 2 0) 3 0) 4 0) 5 1) 6 1) 7 0) = true := by decide +kernel
theorem wk9_0_0_0_0_1_1_1 : wk 9 2 8 3 (aw (aw (aw (aw (aw (aw (aw c0 1 0) 2 0) 3 0) 4 0) 5 1) 6 1) 7 1) = true := by decide +kernel
theorem wk9_0_0_0_0_1_1_2 : wk 9 2 8 4 (aw (aw (aw (aw (aw (aw (aw c0 1 0) 2 0) 3 0) 4 0) 5 1) 6 1) 7 2) = true := by decide +kernel
theorem wk9_0_0_0_0_1_1_3 : wk 9 2 8 5 (aw (aw (aw (aw (aw (aw (aw c0 1 0) 2 0) 3 0) 4 0) 5 1) 6 1) 7 3) = true := by decide +kernel
theorem wk9_0_0_0_0_1_1_4 : wk 9 2 8 6 (aw (aw (aw (aw (aw (aw (aw c0 1 0) 2 0) 3 0) 4 0) 5 1) 6 1) 7 4) = true := by decide +kernel
theorem wk9_0_0_0_0_1_1_5 : wk 9 2 8 7 (aw (aw (aw (aw (aw (aw (aw c0 1 0) 2 0) 3 0) 4 0) 5 1) 6 1) 7 5) = true := by decide +kernel
theorem wk9_0_0_0_0_1_1 : wk 9 3 7 2 (aw (aw (aw (aw (aw (aw c0 1 0) 2 0) 3 0) 4 0) 5 1) 6 1) = true := wk_c (fun v hv => by
  rcases (by omega : v = 0 ∨ v = 1 ∨ v = 2 ∨ v = 3 ∨ v = 4 ∨ v = 5) with rfl | rfl | rfl | rfl | rfl | rfl
  · exact wk9_0_0_0_0_1_1_0
  · exact wk9_0_0_0_0_1_1_1
  · exact wk9_0_0_0_0_1_1_2
  · exact wk9_0_0_0_0_1_1_3
  · exact wk9_0_0_0_0_1_1_4
  · exact wk9_0_0_0_0_1_1_5)
theorem wk9_0_0_0_0_1_2_0 : wk 9 2 8 3 (aw (aw (aw (aw (aw (aw (aw c0 1 0) 2 0) 3 0) 4 0) 5 1) 6 2) 7 0) = true := by decide +kernel
theorem wk9_0_0_0_0_1_2_1 : wk 9 2 8 4 (aw (aw (aw (aw (aw (aw (aw c0 1 0) 2 0) 3 0) 4 0) 5 1) 6 2) 7 1) = true := by decide +kernel
theorem wk9_0_0_0_0_1_2_2 : wk 9 2 8 5 (aw (aw (aw (aw (aw (aw (aw c0 1 0) 2 0) 3 0) 4 0) 5 1) 6 2) 7 2) = true := by decide +kernel
theorem wk9_0_0_0_0_1_2_3 : wk 9 2 8 6 (aw (aw (aw (aw (aw (aw (aw c0 1 0) 2 0) 3 0) 4 0) 5 1) 6 2) 7 3) = true := by decide +kernel
theorem wk9_0_0_0_0_1_2_4 : wk 9 2 8 7 (aw (aw (aw (aw (aw (aw (aw c0 1 0) 2 0) 3 0) 4 0) 5 1) 6 2) 7 4) = true := by decide +kernel
theorem wk9_0_0_0_0_1_2 : wk 9 3 7 3 (aw (aw (aw (aw (aw (aw c0 1 0) 2 0) 3 0) 4 0) 5 1) 6 2) = true := wk_c (fun v hv => by
  rcases (by omega : v = 0 ∨ v = 1 ∨ v = 2 ∨ v = 3 ∨ v = 4) with rfl | rfl | rfl | rfl | rfl
  · exact wk9_0_0_0_0_1_2_0
  · exact wk9_0_0_0_0_1_2_1
  · exact wk9_0_0_0_0_1_2_2
  · exact wk9_0_0_0_0_1_2_3
  · exact wk9_0_0_0_0_1_2_4)
theorem wk9_0_0_0_0_1_3_0 : wk 9 2 8 4 (aw (aw (aw (aw (aw (aw (aw c0 1 0) 2 0) 3 0) 4 0) 5 1) 6 3) 7 0) = true := by decide +kernel
theorem wk9_0_0_0_0_1_3_1 : wk 9 2 8 5 (aw (aw (aw (aw (aw (aw (aw c0 1 0) 2 0) 3 0) 4 0) 5 1) 6 3) 7 1) = true := by decide +kernel
theorem wk9_0_0_0_0_1_3_2 : wk 9 2 8 6 (aw (aw (aw (aw (aw (aw (aw c0 1 0) 2 0) 3 0) 4 0) 5 1) 6 3) 7 2) = true := by decide +kernel
theorem wk9_0_0_0_0_1_3_3 : wk 9 2 8 7 (aw (aw (aw (aw (aw (aw (aw c0 1 0) 2 0) 3 0) 4 0) 5 1) 6 3) 7 3) = true := by decide +kernel
theorem wk9_0_0_0_0_1_3 : wk 9 3 7 4 (aw (aw (aw (aw (aw (aw c0 1 0) 2 0) 3 0) 4 0) 5 1) 6 3) = true := wk_c (fun v hv => by
  rcases (by omega : v = 0 ∨ v = 1 ∨ v = 2 ∨ v = 3) with rfl | rfl | rfl | rfl
  · exact wk9_0_0_0_0_1_3_0
  · exact wk9_0_0_0_0_1_3_1
  · exact wk9_0_0_0_0_1_3_2
  · exact wk9_0_0_0_0_1_3_3)
theorem wk9_0_0_0_0_1_4_0 : wk 9 2 8 5 (aw (aw (aw (aw (aw (aw (aw c0 1 0) 2 0) 3 0) 4 0) 5 1) 6 4) 7 0) = true := by decide +kernel
theorem wk9_0_0_0_0_1_4_1 : wk 9 2 8 6 (aw (aw (aw (aw (aw (aw (aw c0 1 0) 2 0) 3 0) 4 0) 5 1) 6 4) 7 1) = true := by decide +kernel
theorem wk9_0_0_0_0_1_4_2 : wk 9 2 8 7 (aw (aw (aw (aw (aw (aw (aw c0 1 0) 2 0) 3 0) 4 0) 5 1) 6 4) 7 2) = true := by decide +kernel
theorem wk9_0_0_0_0_1_4 : wk 9 3 7 5 (aw (aw (aw (aw (aw (aw c0 1 0) 2 0) 3 0) 4 0) 5 1) 6 4) = true := wk_c (fun v hv => by
  rcases (by omega : v = 0 ∨ v = 1 ∨ v = 2) with rfl | rfl | rfl
  · exact wk9_0_0_0_0_1_4_0
  · exact wk9_0_0_0_0_1_4_1
  · exact wk9_0_0_0_0_1_4_2)
theorem wk9_0_0_0_0_1_5_0 : wk 9 2 8 6 (aw (aw (aw (aw (aw (aw (aw c0 1 0) 2 0) 3 0) 4 0) 5 1) 6 5) 7 0) = true := by decide +kernel
theorem wk9_0_0_0_0_1_5_1 : wk 9 2 8 7 (aw (aw (aw (aw (aw (aw (aw c0 1 0) 2 0) 3 0) 4 0) 5 1) 6 5) 7 1) = true := by decide +kernel
theorem wk9_0_0_0_0_1_5 : wk 9 3 7 6 (aw (aw (aw (aw (aw (aw c0 1 0) 2 0) 3 0) 4 0) 5 1) 6 5) = true := wk_c (fun v hv => by
  rcases (by omega : v = 0 ∨ v = 1) with rfl | rfl
  · exact wk9_0_0_0_0_1_5_0
  · exact wk9_0_0_0_0_1_5_1)
theorem wk9_0_0_0_0_1 : wk 9 4 6 1 (aw (aw (aw (aw (aw c0 1 0) 2 0) 3 0) 4 0) 5 1) = true := wk_c (fun v hv => by
  rcases (by omega : v = 0 ∨ v = 1 ∨ v = 2 ∨ v = 3 ∨ v = 4 ∨ v = 5) with rfl | rfl | rfl | rfl | rfl | rfl
  · exact wk9_0_0_0_0_1_0
  · exact wk9_0_0_0_0_1_1
  · exact wk9_0_0_0_0_1_2
  · exact wk9_0_0_0_0_1_3
  · exact wk9_0_0_0_0_1_4
  · exact wk9_0_0_0_0_1_5)
theorem wk9_0_0_0_0_2_0_0 : wk 9 2 8 2 (aw (aw (aw (aw (aw (aw (aw c0 1 0) 2 0) 3 0) 4 0) 5 2) 6 0) 7 0) = true := by decide +kernel
theorem wk9_0_0_0_0_2_0_1 : wk 9 2 8 3 (aw (aw (aw (aw (aw (aw (aw c0 1 0) 2 0) 3 0) 4 0) 5 2) 6 0) 7 1) = true := by decide +kernel
theorem wk9_0_0_0_0_2_0_2 : wk 9 2 8 4 (aw (aw (aw (aw (aw (aw (aw c0 1 0) 2 0) 3 0) 4 0) 5 2) 6 0) 7 2) = true := by decide +kernel
theorem wk9_0_0_0_0_2_0_3 : wk 9 2 8 5 (aw (aw (aw (aw (aw (aw (aw c0 1 0) 2 0) 3 0) 4 0) 5 2) 6 0) 7 3) = true := by decide +kernel
theorem wk9_0_0_0_0_2_0_4 : wk 9 2 8 6 (aw (aw (aw (aw (aw (aw (aw c0 1 0) 2 0) 3 0) 4 0) 5 2) 6 0) 7 4) = true := by decide +kernel
theorem wk9_0_0_0_0_2_0_5 : wk 9 2 8 7 (aw (aw (aw (aw (aw (aw (aw c0 1 0) 2 0) 3 0) 4 0) 5 2) 6 0) 7 5) = true := by decide +kernel
theorem wk9_0_0_0_0_2_0 : wk 9 3 7 2 (aw (aw (aw (aw (aw (aw c0 1 0) 2 0) 3 0) 4 0) 5 2) 6 0) = true := wk_c (fun v hv => by
  rcases (by omega : v = 0 ∨ v = 1 ∨ v = 2 ∨ v = 3 ∨ v = 4 ∨ v = 5) with rfl | rfl | rfl | rfl | rfl | rfl
  · exact wk9_0_0_0_0_2_0_0
  · exact wk9_0_0_0_0_2_0_1
  · exact wk9_0_0_0_0_2_0_2
  · exact wk9_0_0_0_0_2_0_3
  · exact wk9_0_0_0_0_2_0_4
  · exact wk9_0_0_0_0_2_0_5)
theorem wk9_0_0_0_0_2_1_0 : wk 9 2 8 3 (aw (aw (aw (aw (aw (aw (aw c0 1 0) 2 0) 3 0) 4 0) 5 2) 6 1) 7 0) = true := by decide +kernel
theorem wk9_0_0_0_0_2_1_1 : wk 9 2 8 4 (aw (aw (aw (aw (aw (aw (aw c0 1 0) 2 0) 3 0) 4 0) 5 2) 6 1) 7 1) = true := by decide +kernel
theorem wk9_0_0_0_0_2_1_2 : wk 9 2 8 5 (aw (aw (aw (aw (aw (aw (aw c0 1 0) 2 0) 3 0) 4 0) 5 2) 6 1) 7 2) = true := by decide +kernel
theorem wk9_0_0_0_0_2_1_3 : wk 9 2 8 6 (aw (aw (aw (aw (aw (aw (aw c0 1 0) 2 0) 3 0) 4 0) 5 2) 6 1) 7 3) = true := by decide +kernel
theorem wk9_0_0_0_0_2_1_4 : wk 9 2 8 7 (aw (aw (aw (aw (aw (aw (aw c0 1 0) 2 0) 3 0) 4 0) 5 2) 6 1) 7 4) = true := by decide +kernel
theorem wk9_0_0_0_0_2_1 : wk 9 3 7 3 (aw (aw (aw (aw (aw (aw c0 1 0) 2 0) 3 0) 4 0) 5 2) 6 1) = true := wk_c (fun v hv => by
  rcases (by omega : v = 0 ∨ v = 1 ∨ v = 2 ∨ v = 3 ∨ v = 4) with rfl | rfl | rfl | rfl | rfl
  · exact wk9_0_0_0_0_2_1_0
  · exact wk9_0_0_0_0_2_1_1
  · exact wk9_0_0_0_0_2_1_2
  · exact wk9_0_0_0_0_2_1_3
  · exact wk9_0_0_0_0_2_1_4)
theorem wk9_0_0_0_0_2_2_0 : wk 9 2 8 4 (aw (aw (aw (aw (aw (aw (aw c0 1 0) 2 0) 3 0) 4 0) 5 2) 6 2) 7 0) = true := by decide +kernel
theorem wk9_0_0_0_0_2_2_1 : wk 9 2 8 5 (aw (aw (aw (aw (aw (aw (aw c0 1 0) 2 0) 3 0) 4 0) 5 2) 6 2) 7 1) = true := by decide +kernel
theorem wk9_0_0_0_0_2_2_2 : wk 9 2 8 6 (aw (aw (aw (aw (aw (aw (aw c0 1 0) 2 0) 3 0) 4 0) 5 2) 6 2) 7 2) = true := by decide +kernel
theorem wk9_0_0_0_0_2_2_3 : wk 9 2 8 7 (aw (aw (aw (aw (aw (aw (aw c0 1 0) 2 0) 3 0) 4 0) 5 2) 6 2) 7 3) = true := by decide +kernel
theorem wk9_0_0_0_0_2_2 : wk 9 3 7 4 (aw (aw (aw (aw (aw (aw c0 1 0) 2 0) 3 0) 4 0) 5 2) 6 2) = true := wk_c (fun v hv => by
  rcases (by omega : v = 0 ∨ v = 1 ∨ v = 2 ∨ v = 3) with rfl | rfl | rfl | rfl
  · exact wk9_0_0_0_0_2_2_0
  · exact wk9_0_0_0_0_2_2_1
  · exact wk9_0_0_0_0_2_2_2
  · exact wk9_0_0_0_0_2_2_3)
theorem wk9_0_0_0_0_2_3_0 : wk 9 2 8 5 (aw (aw (aw (aw (aw (aw (aw c0 1 0) 2 0) 3 0) 4 0) 5 2) 6 3) 7 0) = true := by decide +kernel
theorem wk9_0_0_0_0_2_3_1 : wk 9 2 8 6 (aw (aw (aw (aw (aw (aw (aw c0 1 0) 2 0) 3 0) 4 0) 5 2) 6 3) 7 1) = true := by decide +kernel
theorem wk9_0_0_0_0_2_3_2 : wk 9 2 8 7 (aw (aw (aw (aw (aw (aw (aw c0 1 0) 2 0) 3 0) 4 0) 5 2) 6 3) 7 2) = true := by decide +kernel
theorem wk9_0_0_0_0_2_3 : wk 9 3 7 5 (aw (aw (aw (aw (aw (aw c0 1 0) 2 0) 3 0) 4 0) 5 2) 6 3) = true := wk_c (fun v hv => by
  rcases (by omega : v = 0 ∨ v = 1 ∨ v = 2) with rfl | rfl | rfl
  · exact wk9_0_0_0_0_2_3_0
  · exact wk9_0_0_0_0_2_3_1
  · exact wk9_0_0_0_0_2_3_2)
theorem wk9_0_0_0_0_2_4_0 : wk 9 2 8 6 (aw (aw (aw (aw (aw (aw (aw c0 1 0) 2 0) 3 0) 4 0) 5 2) 6 4) 7 0) = true := by decide +kernel
theorem wk9_0_0_0_0_2_4_1 : wk 9 2 8 7 (aw (aw (aw (aw (aw (aw (aw c0 1 0) 2 0) 3 0) 4 0) 5 2) 6 4) 7 1) = true := by decide +kernel
theorem wk9_0_0_0_0_2_4 : wk 9 3 7 6 (aw (aw (aw (aw (aw (aw c0 1 0) 2 0) 3 0) 4 0) 5 2) 6 4) = true := wk_c (fun v hv => by
  rcases (by omega : v = 0 ∨ v = 1) with rfl | rfl
  · exact wk9_0_0_0_0_2_4_0
  · exact wk9_0_0_0_0_2_4_1)
theorem wk9_0_0_0_0_2 : wk 9 4 6 2 (aw (aw (aw (aw (aw c0 1 0) 2 0) 3 0) 4 0) 5 2) = true := wk_c (fun v hv => by
  rcases (by omega : v = 0 ∨ v = 1 ∨ v = 2 ∨ v = 3 ∨ v = 4) with rfl | rfl | rfl | rfl | rfl
  · exact wk9_0_0_0_0_2_0
  · exact wk9_0_0_0_0_2_1
  · exact wk9_0_0_0_0_2_2
  · exact wk9_0_0_0_0_2_3
  · exact wk9_0_0_0_0_2_4)
theorem wk9_0_0_0_0_3_0_0 : wk 9 2 8 3 (aw (aw (aw (aw (aw (aw (aw c0 1 0) 2 0) 3 0) 4 0) 5 3) 6 0) 7 0) = true := by decide +kernel
theorem wk9_0_0_0_0_3_0_1 : wk 9 2 8 4 (aw (aw (aw (aw (aw (aw (aw c0 1 0) 2 0) 3 0) 4 0) 5 3) 6 0) 7 1) = true := by decide +kernel
theorem wk9_0_0_0_0_3_0_2 : wk 9 2 8 5 (aw (aw (aw (aw (aw (aw (aw c0 1 0) 2 0) 3 0) 4 0) 5 3) 6 0) 7 2) = true := by decide +kernel
theorem wk9_0_0_0_0_3_0_3 : wk 9 2 8 6 (aw (aw (aw (aw (aw (aw (aw c0 1 0) 2 0) 3 0) 4 0) 5 3) 6 0) 7 3) = true := by decide +kernel
theorem wk9_0_0_0_0_3_0_4 : wk 9 2 8 7 (aw (aw (aw (aw (aw (aw (aw c0 1 0) 2 0) 3 0) 4 0) 5 3) 6 0) 7 4) = true := by decide +kernel
theorem wk9_0_0_0_0_3_0 : wk 9 3 7 3 (aw (aw (aw (aw (aw (aw c0 1 0) 2 0) 3 0) 4 0) 5 3) 6 0) = true := wk_c (fun v hv => by
  rcases (by omega : v = 0 ∨ v = 1 ∨ v = 2 ∨ v = 3 ∨ v = 4) with rfl | rfl | rfl | rfl | rfl
  · exact wk9_0_0_0_0_3_0_0
  · exact wk9_0_0_0_0_3_0_1
  · exact wk9_0_0_0_0_3_0_2
  · exact wk9_0_0_0_0_3_0_3
  · exact wk9_0_0_0_0_3_0_4)
theorem wk9_0_0_0_0_3_1_0 : wk 9 2 8 4 (aw (aw (aw (aw (aw (aw (aw c0 1 0) 2 0) 3 0) 4 0) 5 3) 6 1) 7 0) = true := by decide +kernel
theorem wk9_0_0_0_0_3_1_1 : wk 9 2 8 5 (aw (aw (aw (aw (aw (aw (aw c0 1 0) 2 0) 3 0) 4 0) 5 3) 6 1) 7 1) = true := by decide +kernel
theorem wk9_0_0_0_0_3_1_2 : wk 9 2 8 6 (aw (aw (aw (aw (aw (aw (aw c0 1 0) 2 0) 3 0) 4 0) 5 3) 6 1) 7 2) = true := by decide +kernel
theorem wk9_0_0_0_0_3_1_3 : wk 9 2 8 7 (aw (aw (aw (aw (aw (aw (aw c0 1 0) 2 0) 3 0) 4 0) 5 3) 6 1) 7 3) = true := by decide +kernel
theorem wk9_0_0_0_0_3_1 : wk 9 3 7 4 (aw (aw (aw (aw (aw (aw c0 1 0) 2 0) 3 0) 4 0) 5 3) 6 1) = true := wk_c (fun v hv => by
  rcases (by omega : v = 0 ∨ v = 1 ∨ v = 2 ∨ v = 3) with rfl | rfl | rfl | rfl
  · exact wk9_0_0_0_0_3_1_0
  · exact wk9_0_0_0_0_3_1_1
  · exact wk9_0_0_0_0_3_1_2
  · exact wk9_0_0_0_0_3_1_3)
theorem wk9_0_0_0_0_3_2_0 : wk 9 2 8 5 (aw (aw (aw (aw (aw (aw (aw c0 1 0) 2 0) 3 0) 4 0) 5 3) 6 2) 7 0) = true := by decide +kernel
theorem wk9_0_0_0_0_3_2_1 : wk 9 2 8 6 (aw (aw (aw (aw (aw (aw (aw c0 1 0) 2 0) 3 0) 4 0) 5 3) 6 2) 7 1) = true := by decide +kernel
theorem wk9_0_0_0_0_3_2_2 : wk 9 2 8 7 (aw (aw (aw (aw (aw (aw (aw c0 1 0) 2 0) 3 0) 4 0) 5 3) 6 2) 7 2) = true := by decide +kernel
theorem wk9_0_0_0_0_3_2 : wk 9 3 7 5 (aw (aw (aw (aw (aw (aw c0 1 0) 2 0) 3 0) 4 0) 5 3) 6 2) = true := wk_c (fun v hv => by
  rcases (by omega : v = 0 ∨ v = 1 ∨ v = 2) with rfl | rfl | rfl
  · exact wk9_0_0_0_0_3_2_0
  · exact wk9_0_0_0_0_3_2_1
  · exact wk9_0_0_0_0_3_2_2)
theorem wk9_0_0_0_0_3_3_0 : wk 9 2 8 6 (aw (aw (aw (aw (aw (aw (aw c0 1 0) 2 0) 3 0) 4 0) 5 3) 6 3) 7 0) = true := by decide +kernel
theorem wk9_0_0_0_0_3_3_1 : wk 9 2 8 7 (aw (aw (aw (aw (aw (aw (aw c0 1 0) 2 0) 3 0) 4 0) 5 3) 6 3) 7 1) = true := by decide +kernel
theorem wk9_0_0_0_0_3_3 : wk 9 3 7 6 (aw (aw (aw (aw (aw (aw c0 1 0) 2 0) 3 0) 4 0) 5 3) 6 3) = true := wk_c (fun v hv => by
  rcases (by omega : v = 0 ∨ v = 1) with rfl | rfl
  · exact wk9_0_0_0_0_3_3_0
  · exact wk9_0_0_0_0_3_3_1)
theorem wk9_0_0_0_0_3 : wk 9 4 6 3 (aw (aw (aw (aw (aw c0 1 0) 2 0) 3 0) 4 0) 5 3) = true := wk_c (fun v hv => by
  rcases (by omega : v = 0 ∨ v = 1 ∨ v = 2 ∨ v = 3) with rfl | rfl | rfl | rfl
  · exact wk9_0_0_0_0_3_0
  · exact wk9_0_0_0_0_3_1
  · exact wk9_0_0_0_0_3_2
  · exact wk9_0_0_0_0_3_3)
theorem wk9_0_0_0_0_4_0_0 : wk 9 2 8 4 (aw (aw (aw (aw (aw (aw (aw c0 1 0) 2 0) 3 0) 4 0) 5 4) 6 0) 7 0) = true := by decide +kernel
theorem wk9_0_0_0_0_4_0_1 : wk 9 2 8 5 (aw (aw (aw (aw (aw (aw (aw c0 1 0) 2 0) 3 0) 4 0) 5 4) 6 0) 7 1) = true := by decide +kernel
theorem wk9_0_0_0_0_4_0_2 : wk 9 2 8 6 (aw (aw (aw (aw (aw (aw (aw c0 1 0) 2 0) 3 0) 4 0) 5 4) 6 0) 7 2) = true := by decide +kernel
theorem wk9_0_0_0_0_4_0_3 : wk 9 2 8 7 (aw (aw (aw (aw (aw (aw (aw c0 1 0) 2 0) 3 0) 4 0) 5 4) 6 0) 7 3) = true := by decide +kernel
theorem wk9_0_0_0_0_4_0 : wk 9 3 7 4 (aw (aw (aw (aw (aw (aw c0 1 0) 2 0) 3 0) 4 0) 5 4) 6 0) = true := wk_c (fun v hv => by
  rcases (by omega : v = 0 ∨ v = 1 ∨ v = 2 ∨ v = 3) with rfl | rfl | rfl | rfl
  · exact wk9_0_0_0_0_4_0_0
  · exact wk9_0_0_0_0_4_0_1
  · exact wk9_0_0_0_0_4_0_2
  · exact wk9_0_0_0_0_4_0_3)
theorem wk9_0_0_0_0_4_1_0 : wk 9 2 8 5 (aw (aw (aw (aw (aw (aw (aw c0 1 0) 2 0) 3 0) 4 0) 5 4) 6 1) 7 0) = true := by decide +kernel
theorem wk9_0_0_0_0_4_1_1 : wk 9 2 8 6 (aw (aw (aw (aw (aw (aw (aw c0 1 0) 2 0) 3 0) 4 0) 5 4) 6 1) 7 1) = true := by decide +kernel
theorem wk9_0_0_0_0_4_1_2 : wk 9 2 8 7 (aw (aw (aw (aw (aw (aw (aw c0 1 0) 2 0) 3 0) 4 0) 5 4) 6 1) 7 2) = true := by decide +kernel
theorem wk9_0_0_0_0_4_1 : wk 9 3 7 5 (aw (aw (aw (aw (aw (aw c0 1 0) 2 0) 3 0) 4 0) 5 4) 6 1) = true := wk_c (fun v hv => by
  rcases (by omega : v = 0 ∨ v = 1 ∨ v = 2) with rfl | rfl | rfl
  · exact wk9_0_0_0_0_4_1_0
  · exact wk9_0_0_0_0_4_1_1
  · exact wk9_0_0_0_0_4_1_2)
theorem wk9_0_0_0_0_4_2_0 : wk 9 2 8 6 (aw (aw (aw (aw (aw (aw (aw c0 1 0) 2 0) 3 0) 4 0) 5 4) 6 2) 7 0) = true := by decide +kernel
theorem wk9_0_0_0_0_4_2_1 : wk 9 2 8 7 (aw (aw (aw (aw (aw (aw (aw c0 1 0) 2 0) 3 0) 4 0) 5 4) 6 2) 7 1) = true := by decide +kernel
theorem wk9_0_0_0_0_4_2 : wk 9 3 7 6 (aw (aw (aw (aw (aw (aw c0 1 0) 2 0) 3 0) 4 0) 5 4) 6 2) = true := wk_c (fun v hv => by
  rcases (by omega : v = 0 ∨ v = 1) with rfl | rfl
  · exact wk9_0_0_0_0_4_2_0
  · exact wk9_0_0_0_0_4_2_1)
theorem wk9_0_0_0_0_4 : wk 9 4 6 4 (aw (aw (aw (aw (aw c0 1 0) 2 0) 3 0) 4 0) 5 4) = true := wk_c (fun v hv => by
  rcases (by omega : v = 0 ∨ v = 1 ∨ v = 2) with rfl | rfl | rfl
  · exact wk9_0_0_0_0_4_0
  · exact wk9_0_0_0_0_4_1
  · exact wk9_0_0_0_0_4_2)
theorem wk9_0_0_0_0_5_0_0 : wk 9 2 8 5 (aw (aw (aw (aw (aw (aw (aw c0 1 0) 2 0) 3 0) 4 0) 5 5) 6 0) 7 0) = true := by decide +kernel
theorem wk9_0_0_0_0_5_0_1 : wk 9 2 8 6 (aw (aw (aw (aw (aw (aw (aw c0 1 0) 2 0) 3 0) 4 0) 5 5) 6 0) 7 1) = true := by decide +kernel
theorem wk9_0_0_0_0_5_0_2 : wk 9 2 8 7 (aw (aw (aw (aw (aw (aw (aw c0 1 0) 2 0) 3 0) 4 0) 5 5) 6 0) 7 2) = true := by decide +kernel
theorem wk9_0_0_0_0_5_0 : wk 9 3 7 5 (aw (aw (aw (aw (aw (aw c0 1 0) 2 0) 3 0) 4 0) 5 5) 6 0) = true := wk_c (fun v hv => by
  rcases (by omega : v = 0 ∨ v = 1 ∨ v = 2) with rfl | rfl | rfl
  · exact wk9_0_0_0_0_5_0_0
  · exact wk9_0_0_0_0_5_0_1
  · exact wk9_0_0_0_0_5_0_2)
theorem wk9_0_0_0_0_5_1_0 : wk 9 2 8 6 (aw (aw (aw (aw (aw (aw (aw c0 1 0) 2 0) 3 0) 4 0) 5 5) 6 1) 7 0) = true := by decide +kernel
theorem wk9_0_0_0_0_5_1_1 : wk 9 2 8 7 (aw (aw (aw (aw (aw (aw (aw c0 1 0) 2 0) 3 0) 4 0) 5 5) 6 1) 7 1) = true := by decide +kernel
theorem wk9_0_0_0_0_5_1 : wk 9 3 7 6 (aw (aw (aw (aw (aw (aw c0 1 0) 2 0) 3 0) 4 0) 5 5) 6 1) = true := wk_c (fun v hv => by
  rcases (by omega : v = 0 ∨ v = 1) with rfl | rfl
  · exact wk9_0_0_0_0_5_1_0
  · exact wk9_0_0_0_0_5_1_1)
theorem wk9_0_0_0_0_5 : wk 9 4 6 5 (aw (aw (aw (aw (aw c0 1 0) 2 0) 3 0) 4 0) 5 5) = true := wk_c (fun v hv => by
  rcases (by omega : v = 0 ∨ v = 1) with rfl | rfl
  · exact wk9_0_0_0_0_5_0
  · exact wk9_0_0_0_0_5_1)
theorem wk9_0_0_0_0 : wk 9 5 5 0 (aw (aw (aw (aw c0 1 0) 2 0) 3 0) 4 0) = true := wk_c (fun v hv => by
  rcases (by omega : v = 0 ∨ v = 1 ∨ v = 2 ∨ v = 3 ∨ v = 4 ∨ v = 5) with rfl | rfl | rfl | rfl | rfl | rfl
  · exact wk9_0_0_0_0_0
  · exact wk9_0_0_0_0_1
  · exact wk9_0_0_0_0_2
  · exact wk9_0_0_0_0_3
  · exact wk9_0_0_0_0_4
  · exact wk9_0_0_0_0_5)
theorem wk9_0_0_0_1_0_0_0 : wk 9 2 8 1 (aw (aw (aw (aw (aw (aw (aw c0 1 0) 2 0) 3 0) 4 1) 5 0) 6 0) 7 0) = true := by decide +kernel
theorem wk9_0_0_0_1_0_0_1 : wk 9 2 8 2 (aw (aw (aw (aw (aw (aw (aw c0 1 0) 2 0) 3 0) 4 1) 5 0) 6 0) 7 1) = true := by decide +kernel
theorem wk9_0_0_0_1_0_0_2 : wk 9 2 8 3 (aw (aw (aw (aw (aw (aw (aw c0 1 0) 2 0) 3 0) 4 1) 5 0) 6 0) 7 2) = true := by decide +kernel
theorem wk9_0_0_0_1_0_0_3 : wk 9 2 8 4 (aw (aw (aw (aw (aw (aw (aw c0 1 0) 2 0) 3 0) 4 1) 5 0) 6 0) 7 3) = true := by decide +kernel
theorem wk9_0_0_0_1_0_0_4 : wk 9 2 8 5 (aw (aw (aw (aw (aw (aw (aw c0 1 0) 2 0) 3 0) 4 1) 5 0) 6 0) 7 4) = true := by decide +kernel
theorem wk9_0_0_0_1_0_0_5 : wk 9 2 8 6 (aw (aw (aw (aw (aw (aw (aw c0 1 0) 2 0) 3 0) 4 1) 5 0) 6 0) 7 5) = true := by decide +kernel
theorem wk9_0_0_0_1_0_0_6 : wk 9 2 8 7 (aw (aw (aw (aw (aw (aw (aw c0 1 0) 2 0) 3 0) 4 1) 5 0) 6 0) 7 6) = true := by decide +kernel
theorem wk9_0_0_0_1_0_0 : wk 9 3 7 1 (aw (aw (aw (aw (aw (aw c0 1 0) 2 0) 3 0) 4 1) 5 0) 6 0) = true := wk_c (fun v hv => by
  rcases (by omega : v = 0 ∨ v = 1 ∨ v = 2 ∨ v = 3 ∨ v = 4 ∨ v = 5 ∨ v = 6) with rfl | rfl | rfl | rfl | rfl | rfl | rfl
  · exact wk9_0_0_0_1_0_0_0
  · exact wk9_0_0_0_1_0_0_1
  · exact wk9_0_0_0_1_0_0_2
  · exact wk9_0_0_0_1_0_0_3
  · exact wk9_0_0_0_1_0_0_4
  · exact wk9_0_0_0_1_0_0_5
  · exact wk9_0_0_0_1_0_0_6)
theorem wk9_0_0_0_1_0_1_0 : wk 9 2 8 2 (aw (aw (aw (aw (aw (aw (aw c0 1 0) 2 0) 3 0) 4 1) 5 0) 6 1) 7 0) = true := by decide +kernel
theorem wk9_0_0_0_1_0_1_1 : wk 9 2 8 3 (aw (aw (aw (aw (aw (aw (aw c0 1 0) 2 0) 3 0) 4 1) 5 0) 6 1) 7 1) = true := by decide +kernel
theorem wk9_0_0_0_1_0_1_2 : wk 9 2 8 4 (aw (aw (aw (aw (aw (aw (aw c0 1 0) 2 0) 3 0) 4 1) 5 0) 6 1) 7 2) = true := by decide +kernel
theorem wk9_0_0_0_1_0_1_3 : wk 9 2 8 5 (aw (aw (aw (aw (aw (aw (aw c0 1 0) 2 0) 3 0) 4 1) 5 0) 6 1) 7 3) = true := by decide +kernel
theorem wk9_0_0_0_1_0_1_4 : wk 9 2 8 6 (aw (aw (aw (aw (aw (aw (aw c0 1 0) 2 0) 3 0) 4 1) 5 0) 6 1) 7 4) = true := by decide +kernel
theorem wk9_0_0_0_1_0_1_5 : wk 9 2 8 7 (aw (aw (aw (aw (aw (aw (aw c0 1 0) 2 0) 3 0) 4 1) 5 0) 6 1) 7 5) = true := by decide +kernel
theorem wk9_0_0_0_1_0_1 : wk 9 3 7 2 (aw (aw (aw (aw (aw (aw c0 1 0) 2 0) 3 0) 4 1) 5 0) 6 1) = true := wk_c (fun v hv => by
  rcases (by omega : v = 0 ∨ v = 1 ∨ v = 2 ∨ v = 3 ∨ v = 4 ∨ v = 5) with rfl | rfl | rfl | rfl | rfl | rfl
  · exact wk9_0_0_0_1_0_1_0
  · exact wk9_0_0_0_1_0_1_1
  · exact wk9_0_0_0_1_0_1_2
  · exact wk9_0_0_0_1_0_1_3
  · exact wk9_0_0_0_1_0_1_4
  · exact wk9_0_0_0_1_0_1_5)
theorem wk9_0_0_0_1_0_2_0 : wk 9 2 8 3 (aw (aw (aw (aw (aw (aw (aw c0 1 0) 2 0) 3 0) 4 1) 5 0) 6 2) 7 0) = true := by decide +kernel
theorem wk9_0_0_0_1_0_2_1 : wk 9 2 8 4 (aw (aw (aw (aw (aw (aw (aw c0 1 0) 2 0) 3 0) 4 1) 5 0) 6 2) 7 1) = true := by decide +kernel
theorem wk9_0_0_0_1_0_2_2 : wk 9 2 8 5 (aw (aw (aw (aw (aw (aw (aw c0 1 0) 2 0) 3 0) 4 1) 5 0) 6 2) 7 2) = true := by decide +kernel
theorem wk9_0_0_0_1_0_2_3 : wk 9 2 8 6 (aw (aw (aw (aw (aw (aw (aw c0 1 0) 2 0) 3 0) 4 1) 5 0) 6 2) 7 3) = true := by decide +kernel
theorem wk9_0_0_0_1_0_2_4 : wk 9 2 8 7 (aw (aw (aw (aw (aw (aw (aw c0 1 0) 2 0) 3 0) 4 1) 5 0) 6 2) 7 4) = true := by decide +kernel
theorem wk9_0_0_0_1_0_2 : wk 9 3 7 3 (aw (aw (aw (aw (aw (aw c0 1 0) 2 0) 3 0) 4 1) 5 0) 6 2) = true := wk_c (fun v hv => by
  rcases (by omega : v = 0 ∨ v = 1 ∨ v = 2 ∨ v = 3 ∨ v = 4) with rfl | rfl | rfl | rfl | rfl
  · exact wk9_0_0_0_1_0_2_0
  · exact wk9_0_0_0_1_0_2_1
  · exact wk9_0_0_0_1_0_2_2
  · exact wk9_0_0_0_1_0_2_3
  · exact wk9_0_0_0_1_0_2_4)
theorem wk9_0_0_0_1_0_3_0 : wk 9 2 8 4 (aw (aw (aw (aw (aw (aw (aw c0 1 0) 2 0) 3 0) 4 1) 5 0) 6 3) 7 0) = true := by decide +kernel
theorem wk9_0_0_0_1_0_3_1 : wk 9 2 8 5 (aw (aw (aw (aw (aw (aw (aw c0 1 0) 2 0) 3 0) 4 1) 5 0) 6 3) 7 1) = true := by decide +kernel
theorem wk9_0_0_0_1_0_3_2 : wk 9 2 8 6 (aw (aw (aw (aw (aw (aw (aw c0 1 0) 2 0) 3 0) 4 1) 5 0) 6 3) 7 2) = true := by decide +kernel
theorem wk9_0_0_0_1_0_3_3 : wk 9 2 8 7 (aw (aw (aw (aw (aw (aw (aw c0 1 0) 2 0) 3 0) 4 1) 5 0) 6 3) 7 3) = true := by decide +kernel
theorem wk9_0_0_0_1_0_3 : wk 9 3 7 4 (aw (aw (aw (aw (aw (aw c0 1 0) 2 0) 3 0) 4 1) 5 0) 6 3) = true := wk_c (fun v hv => by
  rcases (by omega : v = 0 ∨ v = 1 ∨ v = 2 ∨ v = 3) with rfl | rfl | rfl | rfl
  · exact wk9_0_0_0_1_0_3_0
  · exact wk9_0_0_0_1_0_3_1
  · exact wk9_0_0_0_1_0_3_2
  · exact wk9_0_0_0_1_0_3_3)
theorem wk9_0_0_0_1_0_4_0 : wk 9 2 8 5 (aw (aw (aw (aw (aw (aw (aw c0 1 0) 2 0) 3 0) 4 1) 5 0) 6 4) 7 0) = true := by decide +kernel
theorem wk9_0_0_0_1_0_4_1 : wk 9 2 8 6 (aw (aw (aw (aw (aw (aw (aw c0 1 0) 2 0) 3 0) 4 1) 5 0) 6 4) 7 1) = true := by decide +kernel
theorem wk9_0_0_0_1_0_4_2 : wk 9 2 8 7 (aw (aw (aw (aw (aw (aw (aw c0 1 0) 2 0) 3 0) 4 1) 5 0) 6 4) 7 2) = true := by decide +kernel
theorem wk9_0_0_0_1_0_4 : wk 9 3 7 5 (aw (aw (aw (aw (aw (aw c0 1 0) 2 0) 3 0) 4 1) 5 0) 6 4) = true := wk_c (fun v hv => by
  rcases (by omega : v = 0 ∨ v = 1 ∨ v = 2) with rfl | rfl | rfl
  · exact wk9_0_0_0_1_0_4_0
  · exact wk9_0_0_0_1_0_4_1
  · exact wk9_0_0_0_1_0_4_2)
theorem wk9_0_0_0_1_0_5_0 : wk 9 2 8 6 (aw (aw (aw (aw (aw (aw (aw c0 1 0) 2 0) 3 0) 4 1) 5 0) 6 5) 7 0) = true := by decide +kernel
theorem wk9_0_0_0_1_0_5_1 : wk 9 2 8 7 (aw (aw (aw (aw (aw (aw (aw c0 1 0) 2 0) 3 0) 4 1) 5 0) 6 5) 7 1) = true := by decide +kernel
theorem wk9_0_0_0_1_0_5 : wk 9 3 7 6 (aw (aw (aw (aw (aw (aw c0 1 0) 2 0) 3 0) 4 1) 5 0) 6 5) = true := wk_c (fun v hv => by
  rcases (by omega : v = 0 ∨ v = 1) with rfl | rfl
  · exact wk9_0_0_0_1_0_5_0
  · exact wk9_0_0_0_1_0_5_1)
theorem wk9_0_0_0_1_0 : wk 9 4 6 1 (aw (aw (aw (aw (aw c0 1 0) 2 0) 3 0) 4 1) 5 0) = true := wk_c (fun v hv => by
  rcases (by omega : v = 0 ∨ v = 1 ∨ v = 2 ∨ v = 3 ∨ v = 4 ∨ v = 5) with rfl | rfl | rfl | rfl | rfl | rfl
  · exact wk9_0_0_0_1_0_0
  · exact wk9_0_0_0_1_0_1
  · exact wk9_0_0_0_1_0_2
  · exact wk9_0_0_0_1_0_3
  · exact wk9_0_0_0_1_0_4
  · exact wk9_0_0_0_1_0_5)
theorem wk9_0_0_0_1_1_0_0 : wk 9 2 8 2 (aw (aw (aw (aw (aw (aw (aw c0 1 0) 2 0) 3 0) 4 1) 5 1) 6 0) 7 0) = true := by decide +kernel
theorem wk9_0_0_0_1_1_0_1 : wk 9 2 8 3 (aw (aw (aw (aw (aw (aw (aw c0 1 0) 2 0) 3 0) 4 1) 5 1) 6 0) 7 1) = true := by decide +kernel
theorem wk9_0_0_0_1_1_0_2 : wk 9 2 8 4 (aw (aw (aw (aw (aw (aw (aw c0 1 0) 2 0) 3 0) 4 1) 5 1) 6 0) 7 2) = true := by decide +kernel
theorem wk9_0_0_0_1_1_0_3 : wk 9 2 8 5 (aw (aw (aw (aw (aw (aw (aw c0 1 0) 2 0) 3 0) 4 1) 5 1) 6 0) 7 3) = true := by decide +kernel
theorem wk9_0_0_0_1_1_0_4 : wk 9 2 8 6 (aw (aw (aw (aw (aw (aw (aw c0 1 0) 2 0) 3 0) 4 1) 5 1) 6 0) 7 4) = true := by decide +kernel
theorem wk9_0_0_0_1_1_0_5 : wk 9 2 8 7 (aw (aw (aw (aw (aw (aw (aw c0 1 0) 2 0) 3 0) 4 1) 5 1) 6 0) 7 5) = true := by decide +kernel
theorem wk9_0_0_0_1_1_0 : wk 9 3 7 2 (aw (aw (aw (aw (aw (aw c0 1 0) 2 0) 3 0) 4 1) 5 1) 6 0) = true := wk_c (fun v hv => by
  rcases (by omega : v = 0 ∨ v = 1 ∨ v = 2 ∨ v = 3 ∨ v = 4 ∨ v = 5) with rfl | rfl | rfl | rfl | rfl | rfl
  · exact wk9_0_0_0_1_1_0_0
  · exact wk9_0_0_0_1_1_0_1
  · exact wk9_0_0_0_1_1_0_2
  · exact wk9_0_0_0_1_1_0_3
  · exact wk9_0_0_0_1_1_0_4
  · exact wk9_0_0_0_1_1_0_5)
theorem wk9_0_0_0_1_1_1_0 : wk 9 2 8 3 (aw (aw (aw (aw (aw (aw (aw c0 1 0) 2 0) 3 0) 4 1) 5 1) 6 1) 7 0) = true := by decide +kernel
theorem wk9_0_0_0_1_1_1_1 : wk 9 2 8 4 (aw (aw (aw (aw (aw (aw (aw c0 1 0) 2 0) 3 0) 4 1) 5 1) 6 1) 7 1) = true := by decide +kernel
theorem wk9_0_0_0_1_1_1_2 : wk 9 2 8 5 (aw (aw (aw (aw (aw (aw (aw c0 1 0) 2 0) 3 0) 4 1) 5 1) 6 1) 7 2) = true := by decide +kernel
theorem wk9_0_0_0_1_1_1_3 : wk 9 2 8 6 (aw (aw (aw (aw (aw (aw (aw c0 1 0) 2 0) 3 0) 4 1) 5 1) 6 1) 7 3) = true := by decide +kernel
theorem wk9_0_0_0_1_1_1_4 : wk 9 2 8 7 (aw (aw (aw (aw (aw (aw (aw c0 1 0) 2 0) 3 0) 4 1) 5 1) 6 1) 7 4) = true := by decide +kernel
theorem wk9_0_0_0_1_1_1 : wk 9 3 7 3 (aw (aw (aw (aw (aw (aw c0 1 0) 2 0) 3 0) 4 1) 5 1) 6 1) = true := wk_c (fun v hv => by
  rcases (by omega : v = 0 ∨ v = 1 ∨ v = 2 ∨ v = 3 ∨ v = 4) with rfl | rfl | rfl | rfl | rfl
  · exact wk9_0_0_0_1_1_1_0
  · exact wk9_0_0_0_1_1_1_1
  · exact wk9_0_0_0_1_1_1_2
  · exact wk9_0_0_0_1_1_1_3
  · exact wk9_0_0_0_1_1_1_4)
theorem wk9_0_0_0_1_1_2_0 : wk 9 2 8 4 (aw (aw (aw (aw (aw (aw (aw c0 1 0) 2 0) 3 0) 4 1) 5 1) 6 2) 7 0) = true := by decide +kernel
theorem wk9_0_0_0_1_1_2_1 : wk 9 2 8 5 (aw (aw (aw (aw (aw (aw (aw c0 1 0) 2 0) 3 0) 4 1) 5 1) 6 2) 7 1) = true := by decide +kernel
theorem wk9_0_0_0_1_1_2_2 : wk 9 2 8 6 (aw (aw (aw (aw (aw (aw (aw c0 1 0) 2 0) 3 0) 4 1) 5 1) 6 2) 7 2) = true := by decide +kernel
theorem wk9_0_0_0_1_1_2_3 : wk 9 2 8 7 (aw (aw (aw (aw (aw (aw (aw c0 1 0) 2 0) 3 0) 4 1) 5 1) 6 2) 7 3) = true := by decide +kernel
theorem wk9_0_0_0_1_1_2 : wk 9 3 7 4 (aw (aw (aw (aw (aw (aw c0 1 0) 2 0) 3 0) 4 1) 5 1) 6 2) = true := wk_c (fun v hv => by
  rcases (by omega : v = 0 ∨ v = 1 ∨ v = 2 ∨ v = 3) with rfl | rfl | rfl | rfl
  · exact wk9_0_0_0_1_1_2_0
  · exact wk9_0_0_0_1_1_2_1
  · exact wk9_0_0_0_1_1_2_2
  · exact wk9_0_0_0_1_1_2_3)
theorem wk9_0_0_0_1_1_3_0 : wk 9 2 8 5 (aw (aw (aw (aw (aw (aw (aw c0 1 0) 2 0) 3 0) 4 1) 5 1) 6 3) 7 0) = true := by decide +kernel
theorem wk9_0_0_0_1_1_3_1 : wk 9 2 8 6 (aw (aw (aw (aw (aw (aw (aw c0 1 0) 2 0) 3 0) 4 1) 5 1) 6 3) 7 1) = true := by decide +kernel
theorem wk9_0_0_0_1_1_3_2 : wk 9 2 8 7 (aw (aw (aw (aw (aw (aw (aw c0 1 0) 2 0) 3 0) 4 1) 5 1) 6 3) 7 2) = true := by decide +kernel
theorem wk9_0_0_0_1_1_3 : wk 9 3 7 5 (aw (aw (aw (aw (aw (aw c0 1 0) 2 0) 3 0) 4 1) 5 1) 6 3) = true := wk_c (fun v hv => by
  rcases (by omega : v = 0 ∨ v = 1 ∨ v = 2) with rfl | rfl | rfl
  · exact wk9_0_0_0_1_1_3_0
  · exact wk9_0_0_0_1_1_3_1
  · exact wk9_0_0_0_1_1_3_2)
theorem wk9_0_0_0_1_1_4_0 : wk 9 2 8 6 (aw (aw (aw (aw (aw (aw (aw c0 1 0) 2 0) 3 0) 4 1) 5 1) 6 4) 7 0) = true := by decide +kernel
theorem wk9_0_0_0_1_1_4_1 : wk 9 2 8 7 (aw (aw (aw (aw (aw (aw (aw c0 1 0) 2 0) 3 0) 4 1) 5 1) 6 4) 7 1) = true := by decide +kernel
theorem wk9_0_0_0_1_1_4 : wk 9 3 7 6 (aw (aw (aw (aw (aw (aw c0 1 0) 2 0) 3 0) 4 1) 5 1) 6 4) = true := wk_c (fun v hv => by
  rcases (by omega : v = 0 ∨ v = 1) with rfl | rfl
  · exact wk9_0_0_0_1_1_4_0
  · exact wk9_0_0_0_1_1_4_1)
theorem wk9_0_0_0_1_1 : wk 9 4 6 2 (aw (aw (aw (aw (aw c0 1 0) 2 0) 3 0) 4 1) 5 1) = true := wk_c (fun v hv => by
  rcases (by omega : v = 0 ∨ v = 1 ∨ v = 2 ∨ v = 3 ∨ v = 4) with rfl | rfl | rfl | rfl | rfl
  · exact wk9_0_0_0_1_1_0
  · exact wk9_0_0_0_1_1_1
  · exact wk9_0_0_0_1_1_2
  · exact wk9_0_0_0_1_1_3
  · exact wk9_0_0_0_1_1_4)
theorem wk9_0_0_0_1_2_0_0 : wk 9 2 8 3 (aw (aw (aw (aw (aw (aw (aw c0 1 0) 2 0) 3 0) 4 1) 5 2) 6 0) 7 0) = true := by decide +kernel
theorem wk9_0_0_0_1_2_0_1 : wk 9 2 8 4 (aw (aw (aw (aw (aw (aw (aw c0 1 0) 2 0) 3 0) 4 1) 5 2) 6 0) 7 1) = true := by decide +kernel
theorem wk9_0_0_0_1_2_0_2 : wk 9 2 8 5 (aw (aw (aw (aw (aw (aw (aw c0 1 0) 2 0) 3 0) 4 1) 5 2) 6 0) 7 2) = true := by decide +kernel
theorem wk9_0_0_0_1_2_0_3 : wk 9 2 8 6 (aw (aw (aw (aw (aw (aw (aw c0 1 0) 2 0) 3 0) 4 1) 5 2) 6 0) 7 3) = true := by decide +kernel
theorem wk9_0_0_0_1_2_0_4 : wk 9 2 8 7 (aw (aw (aw (aw (aw (aw (aw c0 1 0) 2 0) 3 0) 4 1) 5 2) 6 0) 7 4) = true := by decide +kernel
theorem wk9_0_0_0_1_2_0 : wk 9 3 7 3 (aw (aw (aw (aw (aw (aw c0 1 0) 2 0) 3 0) 4 1) 5 2) 6 0) = true := wk_c (fun v hv => by
  rcases (by omega : v = 0 ∨ v = 1 ∨ v = 2 ∨ v = 3 ∨ v = 4) with rfl | rfl | rfl | rfl | rfl
  · exact wk9_0_0_0_1_2_0_0
  · exact wk9_0_0_0_1_2_0_1
  · exact wk9_0_0_0_1_2_0_2
  · exact wk9_0_0_0_1_2_0_3
  · exact wk9_0_0_0_1_2_0_4)
theorem wk9_0_0_0_1_2_1_0 : wk 9 2 8 4 (aw (aw (aw (aw (aw (aw (aw c0 1 0) 2 0) 3 0) 4 1) 5 2) 6 1) 7 0) = true := by decide +kernel
theorem wk9_0_0_0_1_2_1_1 : wk 9 2 8 5 (aw (aw (aw (aw (aw (aw (aw c0 1 0) 2 0) 3 0) 4 1) 5 2) 6 1) 7 1) = true := by decide +kernel
theorem wk9_0_0_0_1_2_1_2 : wk 9 2 8 6 (aw (aw (aw (aw (aw (aw (aw c0 1 0) 2 0) 3 0) 4 1) 5 2) 6 1) 7 2) = true := by decide +kernel
theorem wk9_0_0_0_1_2_1_3 : wk 9 2 8 7 (aw (aw (aw (aw (aw (aw (aw c0 1 0) 2 0) 3 0) 4 1) 5 2) 6 1) 7 3) = true := by decide +kernel
theorem wk9_0_0_0_1_2_1 : wk 9 3 7 4 (aw (aw (aw (aw (aw (aw c0 1 0) 2 0) 3 0) 4 1) 5 2) 6 1) = true := wk_c (fun v hv => by
  rcases (by omega : v = 0 ∨ v = 1 ∨ v = 2 ∨ v = 3) with rfl | rfl | rfl | rfl
  · exact wk9_0_0_0_1_2_1_0
  · exact wk9_0_0_0_1_2_1_1
  · exact wk9_0_0_0_1_2_1_2
  · exact wk9_0_0_0_1_2_1_3)
theorem wk9_0_0_0_1_2_2_0 : wk 9 2 8 5 (aw (aw (aw (aw (aw (aw (aw c0 1 0) 2 0) 3 0) 4 1) 5 2) 6 2) 7 0) = true := by decide +kernel
theorem wk9_0_0_0_1_2_2_1 : wk 9 2 8 6 (aw (aw (aw (aw (aw (aw (aw c0 1 0) 2 0) 3 0) 4 1) 5 2) 6 2) 7 1) = true := by decide +kernel
theorem wk9_0_0_0_1_2_2_2 : wk 9 2 8 7 (aw (aw (aw (aw (aw (aw (aw c0 1 0) 2 0) 3 0) 4 1) 5 2) 6 2) 7 2) = true := by decide +kernel
theorem wk9_0_0_0_1_2_2 : wk 9 3 7 5 (aw (aw (aw (aw (aw (aw c0 1 0) 2 0) 3 0) 4 1) 5 2) 6 2) = true := wk_c (fun v hv => by
  rcases (by omega : v = 0 ∨ v = 1 ∨ v = 2) with rfl | rfl | rfl
  · exact wk9_0_0_0_1_2_2_0
  · exact wk9_0_0_0_1_2_2_1
  · exact wk9_0_0_0_1_2_2_2)
theorem wk9_0_0_0_1_2_3_0 : wk 9 2 8 6 (aw (aw (aw (aw (aw (aw (aw c0 1 0) 2 0) 3 0) 4 1) 5 2) 6 3) 7 0) = true := by decide +kernel
theorem wk9_0_0_0_1_2_3_1 : wk 9 2 8 7 (aw (aw (aw (aw (aw (aw (aw c0 1 0) 2 0) 3 0) 4 1) 5 2) 6 3) 7 1) = true := by decide +kernel
theorem wk9_0_0_0_1_2_3 : wk 9 3 7 6 (aw (aw (aw (aw (aw (aw c0 1 0) 2 0) 3 0) 4 1) 5 2) 6 3) = true := wk_c (fun v hv => by
  rcases (by omega : v = 0 ∨ v = 1) with rfl | rfl
  · exact wk9_0_0_0_1_2_3_0
  · exact wk9_0_0_0_1_2_3_1)
theorem wk9_0_0_0_1_2 : wk 9 4 6 3 (aw (aw (aw (aw (aw c0 1 0) 2 0) 3 0) 4 1) 5 2) = true := wk_c (fun v hv => by
  rcases (by omega : v = 0 ∨ v = 1 ∨ v = 2 ∨ v = 3) with rfl | rfl | rfl | rfl
  · exact wk9_0_0_0_1_2_0
  · exact wk9_0_0_0_1_2_1
  · exact wk9_0_0_0_1_2_2
  · exact wk9_0_0_0_1_2_3)
theorem wk9_0_0_0_1_3_0_0 : wk 9 2 8 4 (aw (aw (aw (aw (aw (aw (aw c0 1 0) 2 0) 3 0) 4 1) 5 3) 6 0) 7 0) = true := by decide +kernel
theorem wk9_0_0_0_1_3_0_1 : wk 9 2 8 5 (aw (aw (aw (aw (aw (aw (aw c0 1 0) 2 0) 3 0) 4 1) 5 3) 6 0) 7 1) = true := by decide +kernel
theorem wk9_0_0_0_1_3_0_2 : wk 9 2 8 6 (aw (aw (aw (aw (aw (aw (aw c0 1 0) 2 0) 3 0) 4 1) 5 3) 6 0) 7 2) = true := by decide +kernel
theorem wk9_0_0_0_1_3_0_3 : wk 9 2 8 7 (aw (aw (aw (aw (aw (aw (aw c0 1 0) 2 0) 3 0) 4 1) 5 3) 6 0) 7 3) = true := by decide +kernel
theorem wk9_0_0_0_1_3_0 : wk 9 3 7 4 (aw (aw (aw (aw (aw (aw c0 1 0) 2 0) 3 0) 4 1) 5 3) 6 0) = true := wk_c (fun v hv => by
  rcases (by omega : v = 0 ∨ v = 1 ∨ v = 2 ∨ v = 3) with rfl | rfl | rfl | rfl
  · exact wk9_0_0_0_1_3_0_0
  · exact wk9_0_0_0_1_3_0_1
  · exact wk9_0_0_0_1_3_0_2
  · exact wk9_0_0_0_1_3_0_3)
theorem wk9_0_0_0_1_3_1_0 : wk 9 2 8 5 (aw (aw (aw (aw (aw (aw (aw c0 1 0) 2 0) 3 0) 4 1) 5 3) 6 1) 7 0) = true := by decide +kernel
theorem wk9_0_0_0_1_3_1_1 : wk 9 2 8 6 (aw (aw (aw (aw (aw (aw (aw c0 1 0) 2 0) 3 0) 4 1) 5 3) 6 1) 7 1) = true := by decide +kernel
theorem wk9_0_0_0_1_3_1_2 : wk 9 2 8 7 (aw (aw (aw (aw (aw (aw (aw c0 1 0) 2 0) 3 0) 4 1) 5 3) 6 1) 7 2) = true := by decide +kernel
theorem wk9_0_0_0_1_3_1 : wk 9 3 7 5 (aw (aw (aw (aw (aw (aw c0 1 0) 2 0) 3 0) 4 1) 5 3) 6 1) = true := wk_c (fun v hv => by
  rcases (by omega : v = 0 ∨ v = 1 ∨ v = 2) with rfl | rfl | rfl
  · exact wk9_0_0_0_1_3_1_0
  · exact wk9_0_0_0_1_3_1_1
  · exact wk9_0_0_0_1_3_1_2)
theorem wk9_0_0_0_1_3_2_0 : wk 9 2 8 6 (aw (aw (aw (aw (aw (aw (aw c0 1 0) 2 0) 3 0) 4 1) 5 3) 6 2) 7 0) = true := by decide +kernel
theorem wk9_0_0_0_1_3_2_1 : wk 9 2 8 7 (aw (aw (aw (aw (aw (aw (aw c0 1 0) 2 0) 3 0) 4 1) 5 3) 6 2) 7 1) = true := by decide +kernel
theorem wk9_0_0_0_1_3_2 : wk 9 3 7 6 (aw (aw (aw (aw (aw (aw c0 1 0) 2 0) 3 0) 4 1) 5 3) 6 2) = true := wk_c (fun v hv => by
  rcases (by omega : v = 0 ∨ v = 1) with rfl | rfl
  · exact wk9_0_0_0_1_3_2_0
  · exact wk9_0_0_0_1_3_2_1)
theorem wk9_0_0_0_1_3 : wk 9 4 6 4 (aw (aw (aw (aw (aw c0 1 0) 2 0) 3 0) 4 1) 5 3) = true := wk_c (fun v hv => by
  rcases (by omega : v = 0 ∨ v = 1 ∨ v = 2) with rfl | rfl | rfl
  · exact wk9_0_0_0_1_3_0
  · exact wk9_0_0_0_1_3_1
  · exact wk9_0_0_0_1_3_2)
theorem wk9_0_0_0_1_4_0_0 : wk 9 2 8 5 (aw (aw (aw (aw (aw (aw (aw c0 1 0) 2 0) 3 0) 4 1) 5 4) 6 0) 7 0) = true := by decide +kernel
theorem wk9_0_0_0_1_4_0_1 : wk 9 2 8 6 (aw (aw (aw (aw (aw (aw (aw c0 1 0) 2 0) 3 0) 4 1) 5 4) 6 0) 7 1) = true := by decide +kernel
theorem wk9_0_0_0_1_4_0_2 : wk 9 2 8 7 (aw (aw (aw (aw (aw (aw (aw c0 1 0) 2 0) 3 0) 4 1) 5 4) 6 0) 7 2) = true := by decide +kernel
theorem wk9_0_0_0_1_4_0 : wk 9 3 7 5 (aw (aw (aw (aw (aw (aw c0 1 0) 2 0) 3 0) 4 1) 5 4) 6 0) = true := wk_c (fun v hv => by
  rcases (by omega : v = 0 ∨ v = 1 ∨ v = 2) with rfl | rfl | rfl
  · exact wk9_0_0_0_1_4_0_0
  · exact wk9_0_0_0_1_4_0_1
  · exact wk9_0_0_0_1_4_0_2)
theorem wk9_0_0_0_1_4_1_0 : wk 9 2 8 6 (aw (aw (aw (aw (aw (aw (aw c0 1 0) 2 0) 3 0) 4 1) 5 4) 6 1) 7 0) = true := by decide +kernel
theorem wk9_0_0_0_1_4_1_1 : wk 9 2 8 7 (aw (aw (aw (aw (aw (aw (aw c0 1 0) 2 0) 3 0) 4 1) 5 4) 6 1) 7 1) = true := by decide +kernel
theorem wk9_0_0_0_1_4_1 : wk 9 3 7 6 (aw (aw (aw (aw (aw (aw c0 1 0) 2 0) 3 0) 4 1) 5 4) 6 1) = true := wk_c (fun v hv => by
  rcases (by omega : v = 0 ∨ v = 1) with rfl | rfl
  · exact wk9_0_0_0_1_4_1_0
  · exact wk9_0_0_0_1_4_1_1)
theorem wk9_0_0_0_1_4 : wk 9 4 6 5 (aw (aw (aw (aw (aw c0 1 0) 2 0) 3 0) 4 1) 5 4) = true := wk_c (fun v hv => by
  rcases (by omega : v = 0 ∨ v = 1) with rfl | rfl
  · exact wk9_0_0_0_1_4_0
  · exact wk9_0_0_0_1_4_1)
theorem wk9_0_0_0_1 : wk 9 5 5 1 (aw (aw (aw (aw c0 1 0) 2 0) 3 0) 4 1) = true := wk_c (fun v hv => by
  rcases (by omega : v = 0 ∨ v = 1 ∨ v = 2 ∨ v = 3 ∨ v = 4) with rfl | rfl | rfl | rfl | rfl
  · exact wk9_0_0_0_1_0
  · exact wk9_0_0_0_1_1
  · exact wk9_0_0_0_1_2
  · exact wk9_0_0_0_1_3
  · exact wk9_0_0_0_1_4)
theorem wk9_0_0_0_2_0_0_0 : wk 9 2 8 2 (aw (aw (aw (aw (aw (aw (aw c0 1 0) 2 0) 3 0) 4 2) 5 0) 6 0) 7 0) = true := by decide +kernel
theorem wk9_0_0_0_2_0_0_1 : wk 9 2 8 3 (aw (aw (aw (aw (aw (aw (aw c0 1 0) 2 0) 3 0) 4 2) 5 0) 6 0) 7 1) = true := by decide +kernel
theorem wk9_0_0_0_2_0_0_2 : wk 9 2 8 4 (aw (aw (aw (aw (aw (aw (aw c0 1 0) 2 0) 3 0) 4 2) 5 0) 6 0) 7 2) = true := by decide +kernel
theorem wk9_0_0_0_2_0_0_3 : wk 9 2 8 5 (aw (aw (aw (aw (aw (aw (aw c0 1 0) 2 0) 3 0) 4 2) 5 0) 6 0) 7 3) = true := by decide +kernel
theorem wk9_0_0_0_2_0_0_4 : wk 9 2 8 6 (aw (aw (aw (aw (aw (aw (aw c0 1 0) 2 0) 3 0) 4 2) 5 0) 6 0) 7 4) = true := by decide +kernel
theorem wk9_0_0_0_2_0_0_5 : wk 9 2 8 7 (aw (aw (aw (aw (aw (aw (aw c0 1 0) 2 0) 3 0) 4 2) 5 0) 6 0) 7 5) = true := by decide +kernel
theorem wk9_0_0_0_2_0_0 : wk 9 3 7 2 (aw (aw (aw (aw (aw (aw c0 1 0) 2 0) 3 0) 4 2) 5 0) 6 0) = true := wk_c (fun v hv => by
  rcases (by omega : v = 0 ∨ v = 1 ∨ v = 2 ∨ v = 3 ∨ v = 4 ∨ v = 5) with rfl | rfl | rfl | rfl | rfl | rfl
  · exact wk9_0_0_0_2_0_0_0
  · exact wk9_0_0_0_2_0_0_1
  · exact wk9_0_0_0_2_0_0_2
  · exact wk9_0_0_0_2_0_0_3
  · exact wk9_0_0_0_2_0_0_4
  · exact wk9_0_0_0_2_0_0_5)
theorem wk9_0_0_0_2_0_1_0 : wk 9 2 8 3 (aw (aw (aw (aw (aw (aw (aw c0 1 0) 2 0) 3 0) 4 2) 5 0) 6 1) 7 0) = true := by decide +kernel
theorem wk9_0_0_0_2_0_1_1 : wk 9 2 8 4 (aw (aw (aw (aw (aw (aw (aw c0 1 0) 2 0) 3 0) 4 2) 5 0) 6 1) 7 1) = true := by decide +kernel
theorem wk9_0_0_0_2_0_1_2 : wk 9 2 8 5 (aw (aw (aw (aw (aw (aw (aw c0 1 0) 2 0) 3 0) 4 2) 5 0) 6 1) 7 2) = true := by decide +kernel
theorem wk9_0_0_0_2_0_1_3 : wk 9 2 8 6 (aw (aw (aw (aw (aw (aw (aw c0 1 0) 2 0) 3 0) 4 2) 5 0) 6 1) 7 3) = true := by decide +kernel
theorem wk9_0_0_0_2_0_1_4 : wk 9 2 8 7 (aw (aw (aw (aw (aw (aw (aw c0 1 0) 2 0) 3 0) 4 2) 5 0) 6 1) 7 4) = true := by decide +kernel
theorem wk9_0_0_0_2_0_1 : wk 9 3 7 3 (aw (aw (aw (aw (aw (aw c0 1 0) 2 0) 3 0) 4 2) 5 0) 6 1) = true := wk_c (fun v hv => by
  rcases (by omega : v = 0 ∨ v = 1 ∨ v = 2 ∨ v = 3 ∨ v = 4) with rfl | rfl | rfl | rfl | rfl
  · exact wk9_0_0_0_2_0_1_0
  · exact wk9_0_0_0_2_0_1_1
  · exact wk9_0_0_0_2_0_1_2
  · exact wk9_0_0_0_2_0_1_3
  · exact wk9_0_0_0_2_0_1_4)
theorem wk9_0_0_0_2_0_2_0 : wk 9 2 8 4 (aw (aw (aw (aw (aw (aw (aw c0 1 0) 2 0) 3 0) 4 2) 5 0) 6 2) 7 0) = true := by decide +kernel
theorem wk9_0_0_0_2_0_2_1 : wk 9 2 8 5 (aw (aw (aw (aw (aw (aw (aw c0 1 0) 2 0) 3 0) 4 2) 5 0) 6 2) 7 1) = true := by decide +kernel
theorem wk9_0_0_0_2_0_2_2 : wk 9 2 8 6 (aw (aw (aw (aw (aw (aw (aw c0 1 0) 2 0) 3 0) 4 2) 5 0) 6 2) 7 2) = true := by decide +kernel
theorem wk9_0_0_0_2_0_2_3 : wk 9 2 8 7 (aw (aw (aw (aw (aw (aw (aw c0 1 0) 2 0) 3 0) 4 2) 5 0) 6 2) 7 3) = true := by decide +kernel
theorem wk9_0_0_0_2_0_2 : wk 9 3 7 4 (aw (aw (aw (aw (aw (aw c0 1 0) 2 0) 3 0) 4 2) 5 0) 6 2) = true := wk_c (fun v hv => by
  rcases (by omega : v = 0 ∨ v = 1 ∨ v = 2 ∨ v = 3) with rfl | rfl | rfl | rfl
  · exact wk9_0_0_0_2_0_2_0
  · exact wk9_0_0_0_2_0_2_1
  · exact wk9_0_0_0_2_0_2_2
  · exact wk9_0_0_0_2_0_2_3)
theorem wk9_0_0_0_2_0_3_0 : wk 9 2 8 5 (aw (aw (aw (aw (aw (aw (aw c0 1 0) 2 0) 3 0) 4 2) 5 0) 6 3) 7 0) = true := by decide +kernel
theorem wk9_0_0_0_2_0_3_1 : wk 9 2 8 6 (aw (aw (aw (aw (aw (aw (aw c0 1 0) 2 0) 3 0) 4 2) 5 0) 6 3) 7 1) = true := by decide +kernel
theorem wk9_0_0_0_2_0_3_2 : wk 9 2 8 7 (aw (aw (aw (aw (aw (aw (aw c0 1 0) 2 0) 3 0) 4 2) 5 0) 6 3) 7 2) = true := by decide +kernel
theorem wk9_0_0_0_2_0_3 : wk 9 3 7 5 (aw (aw (aw (aw (aw (aw c0 1 0) 2 0) 3 0) 4 2) 5 0) 6 3) = true := wk_c (fun v hv => by
  rcases (by omega : v = 0 ∨ v = 1 ∨ v = 2) with rfl | rfl | rfl
  · exact wk9_0_0_0_2_0_3_0
  · exact wk9_0_0_0_2_0_3_1
  · exact wk9_0_0_0_2_0_3_2)
theorem wk9_0_0_0_2_0_4_0 : wk 9 2 8 6 (aw (aw (aw (aw (aw (aw (aw c0 1 0) 2 0) 3 0) 4 2) 5 0) 6 4) 7 0) = true := by decide +kernel
theorem wk9_0_0_0_2_0_4_1 : wk 9 2 8 7 (aw (aw (aw (aw (aw (aw (aw c0 1 0) 2 0) 3 0) 4 2) 5 0) 6 4) 7 1) = true := by decide +kernel
theorem wk9_0_0_0_2_0_4 : wk 9 3 7 6 (aw (aw (aw (aw (aw (aw c0 1 0) 2 0) 3 0) 4 2) 5 0) 6 4) = true := wk_c (fun v hv => by
  rcases (by omega : v = 0 ∨ v = 1) with rfl | rfl
  · exact wk9_0_0_0_2_0_4_0
  · exact wk9_0_0_0_2_0_4_1)
theorem wk9_0_0_0_2_0 : wk 9 4 6 2 (aw (aw (aw (aw (aw c0 1 0) 2 0) 3 0) 4 2) 5 0) = true := wk_c (fun v hv => by
  rcases (by omega : v = 0 ∨ v = 1 ∨ v = 2 ∨ v = 3 ∨ v = 4) with rfl | rfl | rfl | rfl | rfl
  · exact wk9_0_0_0_2_0_0
  · exact wk9_0_0_0_2_0_1
  · exact wk9_0_0_0_2_0_2
  · exact wk9_0_0_0_2_0_3
  · exact wk9_0_0_0_2_0_4)
theorem wk9_0_0_0_2_1_0_0 : wk 9 2 8 3 (aw (aw (aw (aw (aw (aw (aw c0 1 0) 2 0) 3 0) 4 2) 5 1) 6 0) 7 0) = true := by decide +kernel
theorem wk9_0_0_0_2_1_0_1 : wk 9 2 8 4 (aw (aw (aw (aw (aw (aw (aw c0 1 0) 2 0) 3 0) 4 2) 5 1) 6 0) 7 1) = true := by decide +kernel
theorem wk9_0_0_0_2_1_0_2 : wk 9 2 8 5 (aw (aw (aw (aw (aw (aw (aw c0 1 0) 2 0) 3 0) 4 2) 5 1) 6 0) 7 2) = true := by decide +kernel
theorem wk9_0_0_0_2_1_0_3 : wk 9 2 8 6 (aw (aw (aw (aw (aw (aw (aw c0 1 0) 2 0) 3 0) 4 2) 5 1) 6 0) 7 3) = true := by decide +kernel
theorem wk9_0_0_0_2_1_0_4 : wk 9 2 8 7 (aw (aw (aw (aw (aw (aw (aw c0 1 0) 2 0) 3 0) 4 2) 5 1) 6 0) 7 4) = true := by decide +kernel
theorem wk9_0_0_0_2_1_0 : wk 9 3 7 3 (aw (aw (aw (aw (aw (aw c0 1 0) 2 0) 3 0) 4 2) 5 1) 6 0) = true := wk_c (fun v hv => by
  rcases (by omega : v = 0 ∨ v = 1 ∨ v = 2 ∨ v = 3 ∨ v = 4) with rfl | rfl | rfl | rfl | rfl
  · exact wk9_0_0_0_2_1_0_0
  · exact wk9_0_0_0_2_1_0_1
  · exact wk9_0_0_0_2_1_0_2
  · exact wk9_0_0_0_2_1_0_3
  · exact wk9_0_0_0_2_1_0_4)
theorem wk9_0_0_0_2_1_1_0 : wk 9 2 8 4 (aw (aw (aw (aw (aw (aw (aw c0 1 0) 2 0) 3 0) 4 2) 5 1) 6 1) 7 0) = true := by decide +kernel
theorem wk9_0_0_0_2_1_1_1 : wk 9 2 8 5 (aw (aw (aw (aw (aw (aw (aw c0 1 0) 2 0) 3 0) 4 2) 5 1) 6 1) 7 1) = true := by decide +kernel
theorem wk9_0_0_0_2_1_1_2 : wk 9 2 8 6 (aw (aw (aw (aw (aw (aw (aw c0 1 0) 2 0) 3 0) 4 2) 5 1) 6 1) 7 2) = true := by decide +kernel
theorem wk9_0_0_0_2_1_1_3 : wk 9 2 8 7 (aw (aw (aw (aw (aw (aw (aw c0 1 0) 2 0) 3 0) 4 2) 5 1) 6 1) 7 3) = true := by decide +kernel
theorem wk9_0_0_0_2_1_1 : wk 9 3 7 4 (aw (aw (aw (aw (aw (aw c0 1 0) 2 0) 3 0) 4 2) 5 1) 6 1) = true := wk_c (fun v hv => by
  rcases (by omega : v = 0 ∨ v = 1 ∨ v = 2 ∨ v = 3) with rfl | rfl | rfl | rfl
  · exact wk9_0_0_0_2_1_1_0
  · exact wk9_0_0_0_2_1_1_1
  · exact wk9_0_0_0_2_1_1_2
  · exact wk9_0_0_0_2_1_1_3)
theorem wk9_0_0_0_2_1_2_0 : wk 9 2 8 5 (aw (aw (aw (aw (aw (aw (aw c0 1 0) 2 0) 3 0) 4 2) 5 1) 6 2) 7 0) = true := by decide +kernel
theorem wk9_0_0_0_2_1_2_1 : wk 9 2 8 6 (aw (aw (aw (aw (aw (aw (aw c0 1 0) 2 0) 3 0) 4 2) 5 1) 6 2) 7 1) = true := by decide +kernel
theorem wk9_0_0_0_2_1_2_2 : wk 9 2 8 7 (aw (aw (aw (aw (aw (aw (aw c0 1 0) 2 0) 3 0) 4 2) 5 1) 6 2) 7 2) = true := by decide +kernel
theorem wk9_0_0_0_2_1_2 : wk 9 3 7 5 (aw (aw (aw (aw (aw (aw c0 1 0) 2 0) 3 0) 4 2) 5 1) 6 2) = true := wk_c (fun v hv => by
  rcases (by omega : v = 0 ∨ v = 1 ∨ v = 2) with rfl | rfl | rfl
  · exact wk9_0_0_0_2_1_2_0
  · exact wk9_0_0_0_2_1_2_1
  · exact wk9_0_0_0_2_1_2_2)
theorem wk9_0_0_0_2_1_3_0 : wk 9 2 8 6 (aw (aw (aw (aw (aw (aw (aw c0 1 0) 2 0) 3 0) 4 2) 5 1) 6 3) 7 0) = true := by decide +kernel
theorem wk9_0_0_0_2_1_3_1 : wk 9 2 8 7 (aw (aw (aw (aw (aw (aw (aw c0 1 0) 2 0) 3 0) 4 2) 5 1) 6 3) 7 1) = true := by decide +kernel
theorem wk9_0_0_0_2_1_3 : wk 9 3 7 6 (aw (aw (aw (aw (aw (aw c0 1 0) 2 0) 3 0) 4 2) 5 1) 6 3) = true := wk_c (fun v hv => by
  rcases (by omega : v = 0 ∨ v = 1) with rfl | rfl
  · exact wk9_0_0_0_2_1_3_0
  · exact wk9_0_0_0_2_1_3_1)
theorem wk9_0_0_0_2_1 : wk 9 4 6 3 (aw (aw (aw (aw (aw c0 1 0) 2 0) 3 0) 4 2) 5 1) = true := wk_c (fun v hv => by
  rcases (by omega : v = 0 ∨ v = 1 ∨ v = 2 ∨ v = 3) with rfl | rfl | rfl | rfl
  · exact wk9_0_0_0_2_1_0
  · exact wk9_0_0_0_2_1_1
  · exact wk9_0_0_0_2_1_2
  · exact wk9_0_0_0_2_1_3)
theorem wk9_0_0_0_2_2_0_0 : wk 9 2 8 4 (aw (aw (aw (aw (aw (aw (aw c0 1 0) 2 0) 3 0) 4 2) 5 2) 6 0) 7 0) = true := by decide +kernel
theorem wk9_0_0_0_2_2_0_1 : wk 9 2 8 5 (aw (aw (aw (aw (aw (aw (aw c0 1 0) 2 0) 3 0) 4 2) 5 2) 6 0) 7 1) = true := by decide +kernel
theorem wk9_0_0_0_2_2_0_2 : wk 9 2 8 6 (aw (aw (aw (aw (aw (aw (aw c0 1 0) 2 0) 3 0) 4 2) 5 2) 6 0) 7 2) = true := by decide +kernel
theorem wk9_0_0_0_2_2_0_3 : wk 9 2 8 7 (aw (aw (aw (aw (aw (aw (aw c0 1 0) 2 0) 3 0) 4 2) 5 2) 6 0) 7 3) = true := by decide +kernel
theorem wk9_0_0_0_2_2_0 : wk 9 3 7 4 (aw (aw (aw (aw (aw (aw c0 1 0) 2 0) 3 0) 4 2) 5 2) 6 0) = true := wk_c (fun v hv => by
  rcases (by omega : v = 0 ∨ v = 1 ∨ v = 2 ∨ v = 3) with rfl | rfl | rfl | rfl
  · exact wk9_0_0_0_2_2_0_0
  · exact wk9_0_0_0_2_2_0_1
  · exact wk9_0_0_0_2_2_0_2
  · exact wk9_0_0_0_2_2_0_3)
theorem wk9_0_0_0_2_2_1_0 : wk 9 2 8 5 (aw (aw (aw (aw (aw (aw (aw c0 1 0) 2 0) 3 0) 4 2) 5 2) 6 1) 7 0) = true := by decide +kernel
theorem wk9_0_0_0_2_2_1_1 : wk 9 2 8 6 (aw (aw (aw (aw (aw (aw (aw c0 1 0) 2 0) 3 0) 4 2) 5 2) 6 1) 7 1) = true := by decide +kernel
theorem wk9_0_0_0_2_2_1_2 : wk 9 2 8 7 (aw (aw (aw (aw (aw (aw (aw c0 1 0) 2 0) 3 0) 4 2) 5 2) 6 1) 7 2) = true := by decide +kernel
theorem wk9_0_0_0_2_2_1 : wk 9 3 7 5 (aw (aw (aw (aw (aw (aw c0 1 0) 2 0) 3 0) 4 2) 5 2) 6 1) = true := wk_c (fun v hv => by
  rcases (by omega : v = 0 ∨ v = 1 ∨ v = 2) with rfl | rfl | rfl
  · exact wk9_0_0_0_2_2_1_0
  · exact wk9_0_0_0_2_2_1_1
  · exact wk9_0_0_0_2_2_1_2)
theorem wk9_0_0_0_2_2_2_0 : wk 9 2 8 6 (aw (aw (aw (aw (aw (aw (aw c0 1 0) 2 0) 3 0) 4 2) 5 2) 6 2) 7 0) = true := by decide +kernel
theorem wk9_0_0_0_2_2_2_1 : wk 9 2 8 7 (aw (aw (aw (aw (aw (aw (aw c0 1 0) 2 0) 3 0) 4 2) 5 2) 6 2) 7 1) = true := by decide +kernel
theorem wk9_0_0_0_2_2_2 : wk 9 3 7 6 (aw (aw (aw (aw (aw (aw c0 1 0) 2 0) 3 0) 4 2) 5 2) 6 2) = true := wk_c (fun v hv => by
  rcases (by omega : v = 0 ∨ v = 1) with rfl | rfl
  · exact wk9_0_0_0_2_2_2_0
  · exact wk9_0_0_0_2_2_2_1)
theorem wk9_0_0_0_2_2 : wk 9 4 6 4 (aw (aw (aw (aw (aw c0 1 0) 2 0) 3 0) 4 2) 5 2) = true := wk_c (fun v hv => by
  rcases (by omega : v = 0 ∨ v = 1 ∨ v = 2) with rfl | rfl | rfl
  · exact wk9_0_0_0_2_2_0
  · exact wk9_0_0_0_2_2_1
  · exact wk9_0_0_0_2_2_2)
theorem wk9_0_0_0_2_3_0_0 : wk 9 2 8 5 (aw (aw (aw (aw (aw (aw (aw c0 1 0) 2 0) 3 0) 4 2) 5 3) 6 0) 7 0) = true := by decide +kernel
theorem wk9_0_0_0_2_3_0_1 : wk 9 2 8 6 (aw (aw (aw (aw (aw (aw (aw c0 1 0) 2 0) 3 0) 4 2) 5 3) 6 0) 7 1) = true := by decide +kernel
theorem wk9_0_0_0_2_3_0_2 : wk 9 2 8 7 (aw (aw (aw (aw (aw (aw (aw c0 1 0) 2 0) 3 0) 4 2) 5 3) 6 0) 7 2) = true := by decide +kernel
theorem wk9_0_0_0_2_3_0 : wk 9 3 7 5 (aw (aw (aw (aw (aw (aw c0 1 0) 2 0) 3 0) 4 2) 5 3) 6 0) = true := wk_c (fun v hv => by
  rcases (by omega : v = 0 ∨ v = 1 ∨ v = 2) with rfl | rfl | rfl
  · exact wk9_0_0_0_2_3_0_0
  · exact wk9_0_0_0_2_3_0_1
  · exact wk9_0_0_0_2_3_0_2)
theorem wk9_0_0_0_2_3_1_0 : wk 9 2 8 6 (aw (aw (aw (aw (aw (aw (aw c0 1 0) 2 0) 3 0) 4 2) 5 3) 6 1) 7 0) = true := by decide +kernel
theorem wk9_0_0_0_2_3_1_1 : wk 9 2 8 7 (aw (aw (aw (aw (aw (aw (aw c0 1 0) 2 0) 3 0) 4 2) 5 3) 6 1) 7 1) = true := by decide +kernel
theorem wk9_0_0_0_2_3_1 : wk 9 3 7 6 (aw (aw (aw (aw (aw (aw c0 1 0) 2 0) 3 0) 4 2) 5 3) 6 1) = true := wk_c (fun v hv => by
  rcases (by omega : v = 0 ∨ v = 1) with rfl | rfl
  · exact wk9_0_0_0_2_3_1_0
  · exact wk9_0_0_0_2_3_1_1)
theorem wk9_0_0_0_2_3 : wk 9 4 6 5 (aw (aw (aw (aw (aw c0 1 0) 2 0) 3 0) 4 2) 5 3) = true := wk_c (fun v hv => by
  rcases (by omega : v = 0 ∨ v = 1) with rfl | rfl
  · exact wk9_0_0_0_2_3_0
  · exact wk9_0_0_0_2_3_1)
theorem wk9_0_0_0_2 : wk 9 5 5 2 (aw (aw (aw (aw c0 1 0) 2 0) 3 0) 4 2) = true := wk_c (fun v hv => by
  rcases (by omega : v = 0 ∨ v = 1 ∨ v = 2 ∨ v = 3) with rfl | rfl | rfl | rfl
  · exact wk9_0_0_0_2_0
  · exact wk9_0_0_0_2_1
  · exact wk9_0_0_0_2_2
  · exact wk9_0_0_0_2_3)
theorem wk9_0_0_0_3_0_0_0 : wk 9 2 8 3 (aw (aw (aw (aw (aw (aw (aw c0 1 0) 2 0) 3 0) 4 3) 5 0) 6 0) 7 0) = true := by decide +kernel
theorem wk9_0_0_0_3_0_0_1 : wk 9 2 8 4 (aw (aw (aw (aw (aw (aw (aw c0 1 0) 2 0) 3 0) 4 3) 5 0) 6 0) 7 1) = true := by decide +kernel
theorem wk9_0_0_0_3_0_0_2 : wk 9 2 8 5 (aw (aw (aw (aw (aw (aw (aw c0 1 0) 2 0) 3 0) 4 3) 5 0) 6 0) 7 2) = true := by decide +kernel
theorem wk9_0_0_0_3_0_0_3 : wk 9 2 8 6 (aw (aw (aw (aw (aw (aw (aw c0 1 0) 2 0) 3 0) 4 3) 5 0) 6 0) 7 3) = true := by decide +kernel
theorem wk9_0_0_0_3_0_0_4 : wk 9 2 8 7 (aw (aw (aw (aw (aw (aw (aw c0 1 0) 2 0) 3 0) 4 3) 5 0) 6 0) 7 4) = true := by decide +kernel
theorem wk9_0_0_0_3_0_0 : wk 9 3 7 3 (aw (aw (aw (aw (aw (aw c0 1 0) 2 0) 3 0) 4 3) 5 0) 6 0) = true := wk_c (fun v hv => by
  rcases (by omega : v = 0 ∨ v = 1 ∨ v = 2 ∨ v = 3 ∨ v = 4) with rfl | rfl | rfl | rfl | rfl
  · exact wk9_0_0_0_3_0_0_0
  · exact wk9_0_0_0_3_0_0_1
  · exact wk9_0_0_0_3_0_0_2
  · exact wk9_0_0_0_3_0_0_3
  · exact wk9_0_0_0_3_0_0_4)
theorem wk9_0_0_0_3_0_1_0 : wk 9 2 8 4 (aw (aw (aw (aw (aw (aw (aw c0 1 0) 2 0) 3 0) 4 3) 5 0) 6 1) 7 0) = true := by decide +kernel
theorem wk9_0_0_0_3_0_1_1 : wk 9 2 8 5 (aw (aw (aw (aw (aw (aw (aw c0 1 0) 2 0) 3 0) 4 3) 5 0) 6 1) 7 1) = true := by decide +kernel
theorem wk9_0_0_0_3_0_1_2 : wk 9 2 8 6 (aw (aw (aw (aw (aw (aw (aw c0 1 0) 2 0) 3 0) 4 3) 5 0) 6 1) 7 2) = true := by decide +kernel
theorem wk9_0_0_0_3_0_1_3 : wk 9 2 8 7 (aw (aw (aw (aw (aw (aw (aw c0 1 0) 2 0) 3 0) 4 3) 5 0) 6 1) 7 3) = true := by decide +kernel
theorem wk9_0_0_0_3_0_1 : wk 9 3 7 4 (aw (aw (aw (aw (aw (aw c0 1 0) 2 0) 3 0) 4 3) 5 0) 6 1) = true := wk_c (fun v hv => by
  rcases (by omega : v = 0 ∨ v = 1 ∨ v = 2 ∨ v = 3) with rfl | rfl | rfl | rfl
  · exact wk9_0_0_0_3_0_1_0
  · exact wk9_0_0_0_3_0_1_1
  · exact wk9_0_0_0_3_0_1_2
  · exact wk9_0_0_0_3_0_1_3)
theorem wk9_0_0_0_3_0_2_0 : wk 9 2 8 5 (aw (aw (aw (aw (aw (aw (aw c0 1 0) 2 0) 3 0) 4 3) 5 0) 6 2) 7 0) = true := by decide +kernel
theorem wk9_0_0_0_3_0_2_1 : wk 9 2 8 6 (aw (aw (aw (aw (aw (aw (aw c0 1 0) 2 0) 3 0) 4 3) 5 0) 6 2) 7 1) = true := by decide +kernel
theorem wk9_0_0_0_3_0_2_2 : wk 9 2 8 7 (aw (aw (aw (aw (aw (aw (aw c0 1 0) 2 0) 3 0) 4 3) 5 0) 6 2) 7 2) = true := by decide +kernel
theorem wk9_0_0_0_3_0_2 : wk 9 3 7 5 (aw (aw (aw (aw (aw (aw c0 1 0) 2 0) 3 0) 4 3) 5 0) 6 2) = true := wk_c (fun v hv => by
  rcases (by omega : v = 0 ∨ v = 1 ∨ v = 2) with rfl | rfl | rfl
  · exact wk9_0_0_0_3_0_2_0
  · exact wk9_0_0_0_3_0_2_1
  · exact wk9_0_0_0_3_0_2_2)
theorem wk9_0_0_0_3_0_3_0 : wk 9 2 8 6 (aw (aw (aw (aw (aw (aw (aw c0 1 0) 2 0) 3 0) 4 3) 5 0) 6 3) 7 0) = true := by decide +kernel
theorem wk9_0_0_0_3_0_3_1 : wk 9 2 8 7 (aw (aw (aw (aw (aw (aw (aw c0 1 0) 2 0) 3 0) 4 3) 5 0) 6 3) 7 1) = true := by decide +kernel
theorem wk9_0_0_0_3_0_3 : wk 9 3 7 6 (aw (aw (aw (aw (aw (aw c0 1 0) 2 0) 3 0) 4 3) 5 0) 6 3) = true := wk_c (fun v hv => by
  rcases (by omega : v = 0 ∨ v = 1) with rfl | rfl
  · exact wk9_0_0_0_3_0_3_0
  · exact wk9_0_0_0_3_0_3_1)
theorem wk9_0_0_0_3_0 : wk 9 4 6 3 (aw (aw (aw (aw (aw c0 1 0) 2 0) 3 0) 4 3) 5 0) = true := wk_c (fun v hv => by
  rcases (by omega : v = 0 ∨ v = 1 ∨ v = 2 ∨ v = 3) with rfl | rfl | rfl | rfl
  · exact wk9_0_0_0_3_0_0
  · exact wk9_0_0_0_3_0_1
  · exact wk9_0_0_0_3_0_2
  · exact wk9_0_0_0_3_0_3)
theorem wk9_0_0_0_3_1_0_0 : wk 9 2 8 4 (aw (aw (aw (aw (aw (aw (aw c0 1 0) 2 0) 3 0) 4 3) 5 1) 6 0) 7 0) = true := by decide +kernel
theorem wk9_0_0_0_3_1_0_1 : wk 9 2 8 5 (aw (aw (aw (aw (aw (aw (aw c0 1 0) 2 0) 3 0) 4 3) 5 1) 6 0) 7 1) = true := by decide +kernel
theorem wk9_0_0_0_3_1_0_2 : wk 9 2 8 6 (aw (aw (aw (aw (aw (aw (aw c0 1 0) 2 0) 3 0) 4 3) 5 1) 6 0) 7 2) = true := by decide +kernel
theorem wk9_0_0_0_3_1_0_3 : wk 9 2 8 7 (aw (aw (aw (aw (aw (aw (aw c0 1 0) 2 0) 3 0) 4 3) 5 1) 6 0) 7 3) = true := by decide +kernel
theorem wk9_0_0_0_3_1_0 : wk 9 3 7 4 (aw (aw (aw (aw (aw (aw c0 1 0) 2 0) 3 0) 4 3) 5 1) 6 0) = true := wk_c (fun v hv => by
  rcases (by omega : v = 0 ∨ v = 1 ∨ v = 2 ∨ v = 3) with rfl | rfl | rfl | rfl
  · exact wk9_0_0_0_3_1_0_0
  · exact wk9_0_0_0_3_1_0_1
  · exact wk9_0_0_0_3_1_0_2
  · exact wk9_0_0_0_3_1_0_3)
theorem wk9_0_0_0_3_1_1_0 : wk 9 2 8 5 (aw (aw (aw (aw (aw (aw (aw c0 1 0) 2 0) 3 0) 4 3) 5 1) 6 1) 7 0) = true := by decide +kernel
theorem wk9_0_0_0_3_1_1_1 : wk 9 2 8 6 (aw (aw (aw (aw (aw (aw (aw c0 1 0) 2 0) 3 0) 4 3) 5 1) 6 1) 7 1) = true := by decide +kernel
theorem wk9_0_0_0_3_1_1_2 : wk 9 2 8 7 (aw (aw (aw (aw (aw (aw (aw c0 1 0) 2 0) 3 0) 4 3) 5 1) 6 1) 7 2) = true := by decide +kernel
theorem wk9_0_0_0_3_1_1 : wk 9 3 7 5 (aw (aw (aw (aw (aw (aw c0 1 0) 2 0) 3 0) 4 3) 5 1) 6 1) = true := wk_c (fun v hv => by
  rcases (by omega : v = 0 ∨ v = 1 ∨ v = 2) with rfl | rfl | rfl
  · exact wk9_0_0_0_3_1_1_0
  · exact wk9_0_0_0_3_1_1_1
  · exact wk9_0_0_0_3_1_1_2)
theorem wk9_0_0_0_3_1_2_0 : wk 9 2 8 6 (aw (aw (aw (aw (aw (aw (aw c0 1 0) 2 0) 3 0) 4 3) 5 1) 6 2) 7 0) = true := by decide +kernel
theorem wk9_0_0_0_3_1_2_1 : wk 9 2 8 7 (aw (aw (aw (aw (aw (aw (aw c0 1 0) 2 0) 3 0) 4 3) 5 1) 6 2) 7 1) = true := by decide +kernel
theorem wk9_0_0_0_3_1_2 : wk 9 3 7 6 (aw (aw (aw (aw (aw (aw c0 1 0) 2 0) 3 0) 4 3) 5 1) 6 2) = true := wk_c (fun v hv => by
  rcases (by omega : v = 0 ∨ v = 1) with rfl | rfl
  · exact wk9_0_0_0_3_1_2_0
  · exact wk9_0_0_0_3_1_2_1)
theorem wk9_0_0_0_3_1 : wk 9 4 6 4 (aw (aw (aw (aw (aw c0 1 0) 2 0) 3 0) 4 3) 5 1) = true := wk_c (fun v hv => by
  rcases (by omega : v = 0 ∨ v = 1 ∨ v = 2) with rfl | rfl | rfl
  · exact wk9_0_0_0_3_1_0
  · exact wk9_0_0_0_3_1_1
  · exact wk9_0_0_0_3_1_2)
theorem wk9_0_0_0_3_2_0_0 : wk 9 2 8 5 (aw (aw (aw (aw (aw (aw (aw c0 1 0) 2 0) 3 0) 4 3) 5 2) 6 0) 7 0) = true := by decide +kernel
theorem wk9_0_0_0_3_2_0_1 : wk 9 2 8 6 (aw (aw (aw (aw (aw (aw (aw c0 1 0) 2 0) 3 0) 4 3) 5 2) 6 0) 7 1) = true := by decide +kernel
theorem wk9_0_0_0_3_2_0_2 : wk 9 2 8 7 (aw (aw (aw (aw (aw (aw (aw c0 1 0) 2 0) 3 0) 4 3) 5 2) 6 0) 7 2) = true := by decide +kernel
theorem wk9_0_0_0_3_2_0 : wk 9 3 7 5 (aw (aw (aw (aw (aw (aw c0 1 0) 2 0) 3 0) 4 3) 5 2) 6 0) = true := wk_c (fun v hv => by
  rcases (by omega : v = 0 ∨ v = 1 ∨ v = 2) with rfl | rfl | rfl
  · exact wk9_0_0_0_3_2_0_0
  · exact wk9_0_0_0_3_2_0_1
  · exact wk9_0_0_0_3_2_0_2)
theorem wk9_0_0_0_3_2_1_0 : wk 9 2 8 6 (aw (aw (aw (aw (aw (aw (aw c0 1 0) 2 0) 3 0) 4 3) 5 2) 6 1) 7 0) = true := by decide +kernel
theorem wk9_0_0_0_3_2_1_1 : wk 9 2 8 7 (aw (aw (aw (aw (aw (aw (aw c0 1 0) 2 0) 3 0) 4 3) 5 2) 6 1) 7 1) = true := by decide +kernel
theorem wk9_0_0_0_3_2_1 : wk 9 3 7 6 (aw (aw (aw (aw (aw (aw c0 1 0) 2 0) 3 0) 4 3) 5 2) 6 1) = true := wk_c (fun v hv => by
  rcases (by omega : v = 0 ∨ v = 1) with rfl | rfl
  · exact wk9_0_0_0_3_2_1_0
  · exact wk9_0_0_0_3_2_1_1)
theorem wk9_0_0_0_3_2 : wk 9 4 6 5 (aw (aw (aw (aw (aw c0 1 0) 2 0) 3 0) 4 3) 5 2) = true := wk_c (fun v hv => by
  rcases (by omega : v = 0 ∨ v = 1) with rfl | rfl
  · exact wk9_0_0_0_3_2_0
  · exact wk9_0_0_0_3_2_1)
theorem wk9_0_0_0_3 : wk 9 5 5 3 (aw (aw (aw (aw c0 1 0) 2 0) 3 0) 4 3) = true := wk_c (fun v hv => by
  rcases (by omega : v = 0 ∨ v = 1 ∨ v = 2) with rfl | rfl | rfl
  · exact wk9_0_0_0_3_0
  · exact wk9_0_0_0_3_1
  · exact wk9_0_0_0_3_2)
theorem wk9_0_0_0_4_0_0_0 : wk 9 2 8 4 (aw (aw (aw (aw (aw (aw (aw c0 1 0) 2 0) 3 0) 4 4) 5 0) 6 0) 7 0) = true := by decide +kernel
theorem wk9_0_0_0_4_0_0_1 : wk 9 2 8 5 (aw (aw (aw (aw (aw (aw (aw c0 1 0) 2 0) 3 0) 4 4) 5 0) 6 0) 7 1) = true := by decide +kernel
theorem wk9_0_0_0_4_0_0_2 : wk 9 2 8 6 (aw (aw (aw (aw (aw (aw (aw c0 1 0) 2 0) 3 0) 4 4) 5 0) 6 0) 7 2) = true := by decide +kernel
theorem wk9_0_0_0_4_0_0_3 : wk 9 2 8 7 (aw (aw (aw (aw (aw (aw (aw c0 1 0) 2 0) 3 0) 4 4) 5 0) 6 0) 7 3) = true := by decide +kernel
theorem wk9_0_0_0_4_0_0 : wk 9 3 7 4 (aw (aw (aw (aw (aw (aw c0 1 0) 2 0) 3 0) 4 4) 5 0) 6 0) = true := wk_c (fun v hv => by
  rcases (by omega : v = 0 ∨ v = 1 ∨ v = 2 ∨ v = 3) with rfl | rfl | rfl | rfl
  · exact wk9_0_0_0_4_0_0_0
  · exact wk9_0_0_0_4_0_0_1
  · exact wk9_0_0_0_4_0_0_2
  · exact wk9_0_0_0_4_0_0_3)
theorem wk9_0_0_0_4_0_1_0 : wk 9 2 8 5 (aw (aw (aw (aw (aw (aw (aw c0 1 0) 2 0) 3 0) 4 4) 5 0) 6 1) 7 0) = true := by decide +kernel
theorem wk9_0_0_0_4_0_1_1 : wk 9 2 8 6 (aw (aw (aw (aw (aw (aw (aw c0 1 0) 2 0) 3 0) 4 4) 5 0) 6 1) 7 1) = true := by decide +kernel
theorem wk9_0_0_0_4_0_1_2 : wk 9 2 8 7 (aw (aw (aw (aw (aw (aw (aw c0 1 0) 2 0) 3 0) 4 4) 5 0) 6 1) 7 2) = true := by decide +kernel
theorem wk9_0_0_0_4_0_1 : wk 9 3 7 5 (aw (aw (aw (aw (aw (aw c0 1 0) 2 0) 3 0) 4 4) 5 0) 6 1) = true := wk_c (fun v hv => by
  rcases (by omega : v = 0 ∨ v = 1 ∨ v = 2) with rfl | rfl | rfl
  · exact wk9_0_0_0_4_0_1_0
  · exact wk9_0_0_0_4_0_1_1
  · exact wk9_0_0_0_4_0_1_2)
theorem wk9_0_0_0_4_0_2_0 : wk 9 2 8 6 (aw (aw (aw (aw (aw (aw (aw c0 1 0) 2 0) 3 0) 4 4) 5 0) 6 2) 7 0) = true := by decide +kernel
theorem wk9_0_0_0_4_0_2_1 : wk 9 2 8 7 (aw (aw (aw (aw (aw (aw (aw c0 1 0) 2 0) 3 0) 4 4) 5 0) 6 2) 7 1) = true := by decide +kernel
theorem wk9_0_0_0_4_0_2 : wk 9 3 7 6 (aw (aw (aw (aw (aw (aw c0 1 0) 2 0) 3 0) 4 4) 5 0) 6 2) = true := wk_c (fun v hv => by
  rcases (by omega : v = 0 ∨ v = 1) with rfl | rfl
  · exact wk9_0_0_0_4_0_2_0
  · exact wk9_0_0_0_4_0_2_1)
theorem wk9_0_0_0_4_0 : wk 9 4 6 4 (aw (aw (aw (aw (aw c0 1 0) 2 0) 3 0) 4 4) 5 0) = true := wk_c (fun v hv => by
  rcases (by omega : v = 0 ∨ v = 1 ∨ v = 2) with rfl | rfl | rfl
  · exact wk9_0_0_0_4_0_0
  · exact wk9_0_0_0_4_0_1
  · exact wk9_0_0_0_4_0_2)
theorem wk9_0_0_0_4_1_0_0 : wk 9 2 8 5 (aw (aw (aw (aw (aw (aw (aw c0 1 0) 2 0) 3 0) 4 4) 5 1) 6 0) 7 0) = true := by decide +kernel
theorem wk9_0_0_0_4_1_0_1 : wk 9 2 8 6 (aw (aw (aw (aw (aw (aw (aw c0 1 0) 2 0) 3 0) 4 4) 5 1) 6 0) 7 1) = true := by decide +kernel
theorem wk9_0_0_0_4_1_0_2 : wk 9 2 8 7 (aw (aw (aw (aw (aw (aw (aw c0 1 0) 2 0) 3 0) 4 4) 5 1) 6 0) 7 2) = true := by decide +kernel
theorem wk9_0_0_0_4_1_0 : wk 9 3 7 5 (aw (aw (aw (aw (aw (aw c0 1 0) 2 0) 3 0) 4 4) 5 1) 6 0) = true := wk_c (fun v hv => by
  rcases (by omega : v = 0 ∨ v = 1 ∨ v = 2) with rfl | rfl | rfl
  · exact wk9_0_0_0_4_1_0_0
  · exact wk9_0_0_0_4_1_0_1
  · exact wk9_0_0_0_4_1_0_2)
theorem wk9_0_0_0_4_1_1_0 : wk 9 2 8 6 (aw (aw (aw (aw (aw (aw (aw c0 1 0) 2 0) 3 0) 4 4) 5 1) 6 1) 7 0) = true := by decide +kernel
theorem wk9_0_0_0_4_1_1_1 : wk 9 2 8 7 (aw (aw (aw (aw (aw (aw (aw c0 1 0) 2 0) 3 0) 4 4) 5 1) 6 1) 7 1) = true := by decide +kernel
theorem wk9_0_0_0_4_1_1 : wk 9 3 7 6 (aw (aw (aw (aw (aw (aw c0 1 0) 2 0) 3 0) 4 4) 5 1) 6 1) = true := wk_c (fun v hv => by
  rcases (by omega : v = 0 ∨ v = 1) with rfl | rfl
  · exact wk9_0_0_0_4_1_1_0
  · exact wk9_0_0_0_4_1_1_1)
theorem wk9_0_0_0_4_1 : wk 9 4 6 5 (aw (aw (aw (aw (aw c0 1 0) 2 0) 3 0) 4 4) 5 1) = true := wk_c (fun v hv => by
  rcases (by omega : v = 0 ∨ v = 1) with rfl | rfl
  · exact wk9_0_0_0_4_1_0
  · exact wk9_0_0_0_4_1_1)
theorem wk9_0_0_0_4 : wk 9 5 5 4 (aw (aw (aw (aw c0 1 0) 2 0) 3 0) 4 4) = true := wk_c (fun v hv => by
  rcases (by omega : v = 0 ∨ v = 1) with rfl | rfl
  · exact wk9_0_0_0_4_0
  · exact wk9_0_0_0_4_1)
theorem wk9_0_0_0 : wk 9 6 4 0 (aw (aw (aw c0 1 0) 2 0) 3 0) = true := wk_c (fun v hv => by
  rcases (by omega : v = 0 ∨ v = 1 ∨ v = 2 ∨ v = 3 ∨ v = 4) with rfl | rfl | rfl | rfl | rfl
  · exact wk9_0_0_0_0
  · exact wk9_0_0_0_1
  · exact wk9_0_0_0_2
  · exact wk9_0_0_0_3
  · exact wk9_0_0_0_4)
theorem wk9_0_0_1_0_0_0_0 : wk 9 2 8 1 (aw (aw (aw (aw (aw (aw (aw c0 1 0) 2 0) 3 1) 4 0) 5 0) 6 0) 7 0) = true := by decide +kernel
theorem wk9_0_0_1_0_0_0_1 : wk 9 2 8 2 (aw (aw (aw (aw (aw (aw (aw c0 1 0) 2 0) 3 1) 4 0) 5 0) 6 0) 7 1) = true := by decide +kernel
theorem wk9_0_0_1_0_0_0_2 : wk 9 2 8 3 (aw (aw (aw (aw (aw (aw (aw c0 1 0) 2 0) 3 1) 4 0) 5 0) 6 0) 7 2) = true := by decide +kernel
theorem wk9_0_0_1_0_0_0_3 : wk 9 2 8 4 (aw (aw (aw (aw (aw (aw (aw c0 1 0) 2 0) 3 1) 4 0) 5 0) 6 0) 7 3) = true := by decide +kernel
theorem wk9_0_0_1_0_0_0_4 : wk 9 2 8 5 (aw (aw (aw (aw (aw (aw (aw c0 1 0) 2 0) 3 1) 4 0) 5 0) 6 0) 7 4) = true := by decide +kernel
theorem wk9_0_0_1_0_0_0_5 : wk 9 2 8 6 (aw (aw (aw (aw (aw (aw (aw c0 1 0) 2 0) 3 1) 4 0) 5 0) 6 0) 7 5) = true := by decide +kernel
theorem wk9_0_0_1_0_0_0_6 : wk 9 2 8 7 (aw (aw (aw (aw (aw (aw (aw c0 1 0) 2 0) 3 1) 4 0) 5 0) 6 0) 7 6) = true := by decide +kernel
theorem wk9_0_0_1_0_0_0 : wk 9 3 7 1 (aw (aw (aw (aw (aw (aw c0 1 0) 2 0) 3 1) 4 0) 5 0) 6 0) = true := wk_c (fun v hv => by
  rcases (by omega : v = 0 ∨ v = 1 ∨ v = 2 ∨ v = 3 ∨ v = 4 ∨ v = 5 ∨ v = 6) with rfl | rfl | rfl | rfl | rfl | rfl | rfl
  · exact wk9_0_0_1_0_0_0_0
  · exact wk9_0_0_1_0_0_0_1
  · exact wk9_0_0_1_0_0_0_2
  · exact wk9_0_0_1_0_0_0_3
  · exact wk9_0_0_1_0_0_0_4
  · exact wk9_0_0_1_0_0_0_5
  · exact wk9_0_0_1_0_0_0_6)
theorem wk9_0_0_1_0_0_1_0 : wk 9 2 8 2 (aw (aw (aw (aw (aw (aw (aw c0 1 0) 2 0) 3 1) 4 0) 5 0) 6 1) 7 0) = true := by decide +kernel
theorem wk9_0_0_1_0_0_1_1 : wk 9 2 8 3 (aw (aw (aw (aw (aw (aw (aw c0 1 0) 2 0) 3 1) 4 0) 5 0) 6 1) 7 1) = true := by decide +kernel
theorem wk9_0_0_1_0_0_1_2 : wk 9 2 8 4 (aw (aw (aw (aw (aw (aw (aw c0 1 0) 2 0) 3 1) 4 0) 5 0) 6 1) 7 2) = true := by decide +kernel
theorem wk9_0_0_1_0_0_1_3 : wk 9 2 8 5 (aw (aw (aw (aw (aw (aw (aw c0 1 0) 2 0) 3 1) 4 0) 5 0) 6 1) 7 3) = true := by decide +kernel
theorem wk9_0_0_1_0_0_1_4 : wk 9 2 8 6 (aw (aw (aw (aw (aw (aw (aw c0 1 0) 2 0) 3 1) 4 0) 5 0) 6 1) 7 4) = true := by decide +kernel
theorem wk9_0_0_1_0_0_1_5 : wk 9 2 8 7 (aw (aw (aw (aw (aw (aw (aw c0 1 0) 2 0) 3 1) 4 0) 5 0) 6 1) 7 5) = true := by decide +kernel
theorem wk9_0_0_1_0_0_1 : wk 9 3 7 2 (aw (aw (aw (aw (aw (aw c0 1 0) 2 0) 3 1) 4 0) 5 0) 6 1) = true := wk_c (fun v hv => by
  rcases (by omega : v = 0 ∨ v = 1 ∨ v = 2 ∨ v = 3 ∨ v = 4 ∨ v = 5) with rfl | rfl | rfl | rfl | rfl | rfl
  · exact wk9_0_0_1_0_0_1_0
  · exact wk9_0_0_1_0_0_1_1
  · exact wk9_0_0_1_0_0_1_2
  · exact wk9_0_0_1_0_0_1_3
  · exact wk9_0_0_1_0_0_1_4
  · exact wk9_0_0_1_0_0_1_5)
theorem wk9_0_0_1_0_0_2_0 : wk 9 2 8 3 (aw (aw (aw (aw (aw (aw (aw c0 1 0) 2 0) 3 1) 4 0) 5 0) 6 2) 7 0) = true := by decide +kernel
theorem wk9_0_0_1_0_0_2_1 : wk 9 2 8 4 (aw (aw (aw (aw (aw (aw (aw c0 1 0) 2 0) 3 1) 4 0) 5 0) 6 2) 7 1) = true := by decide +kernel
theorem wk9_0_0_1_0_0_2_2 : wk 9 2 8 5 (aw (aw (aw (aw (aw (aw (aw c0 1 0) 2 0) 3 1) 4 0) 5 0) 6 2) 7 2) = true := by decide +kernel
theorem wk9_0_0_1_0_0_2_3 : wk 9 2 8 6 (aw (aw (aw (aw (aw (aw (aw c0 1 0) 2 0) 3 1) 4 0) 5 0) 6 2) 7 3) = true := by decide +kernel
theorem wk9_0_0_1_0_0_2_4 : wk 9 2 8 7 (aw (aw (aw (aw (aw (aw (aw c0 1 0) 2 0) 3 1) 4 0) 5 0) 6 2) 7 4) = true := by decide +kernel
theorem wk9_0_0_1_0_0_2 : wk 9 3 7 3 (aw (aw (aw (aw (aw (aw c0 1 0) 2 0) 3 1) 4 0) 5 0) 6 2) = true := wk_c (fun v hv => by
  rcases (by omega : v = 0 ∨ v = 1 ∨ v = 2 ∨ v = 3 ∨ v = 4) with rfl | rfl | rfl | rfl | rfl
  · exact wk9_0_0_1_0_0_2_0
  · exact wk9_0_0_1_0_0_2_1
  · exact wk9_0_0_1_0_0_2_2
  · exact wk9_0_0_1_0_0_2_3
  · exact wk9_0_0_1_0_0_2_4)
theorem wk9_0_0_1_0_0_3_0 : wk 9 2 8 4 (aw (aw (aw (aw (aw (aw (aw c0 1 0) 2 0) 3 1) 4 0) 5 0) 6 3) 7 0) = true := by decide +kernel
theorem wk9_0_0_1_0_0_3_1 : wk 9 2 8 5 (aw (aw (aw (aw (aw (aw (aw c0 1 0) 2 0) 3 1) 4 0) 5 0) 6 3) 7 1) = true := by decide +kernel
theorem wk9_0_0_1_0_0_3_2 : wk 9 2 8 6 (aw (aw (aw (aw (aw (aw (aw c0 1 0) 2 0) 3 1) 4 0) 5 0) 6 3) 7 2) = true := by decide +kernel
theorem wk9_0_0_1_0_0_3_3 : wk 9 2 8 7 (aw (aw (aw (aw (aw (aw (aw c0 1 0) 2 0) 3 1) 4 0) 5 0) 6 3) 7 3) = true := by decide +kernel
theorem wk9_0_0_1_0_0_3 : wk 9 3 7 4 (aw (aw (aw (aw (aw (aw c0 1 0) 2 0) 3 1) 4 0) 5 0) 6 3) = true := wk_c (fun v hv => by
  rcases (by omega : v = 0 ∨ v = 1 ∨ v = 2 ∨ v = 3) with rfl | rfl | rfl | rfl
  · exact wk9_0_0_1_0_0_3_0
  · exact wk9_0_0_1_0_0_3_1
  · exact wk9_0_0_1_0_0_3_2
  · exact wk9_0_0_1_0_0_3_3)
theorem wk9_0_0_1_0_0_4_0 : wk 9 2 8 5 (aw (aw (aw (aw (aw (aw (aw c0 1 0) 2 0) 3 1) 4 0) 5 0) 6 4) 7 0) = true := by decide +kernel
theorem wk9_0_0_1_0_0_4_1 : wk 9 2 8 6 (aw (aw (aw (aw (aw (aw (aw c0 1 0) 2 0) 3 1) 4 0) 5 0) 6 4) 7 1) = true := by decide +kernel
theorem wk9_0_0_1_0_0_4_2 : wk 9 2 8 7 (aw (aw (aw (aw (aw (aw (aw c0 1 0) 2 0) 3 1) 4 0) 5 0) 6 4) 7 2) = true := by decide +kernel
theorem wk9_0_0_1_0_0_4 : wk 9 3 7 5 (aw (aw (aw (aw (aw (aw c0 1 0) 2 0) 3 1) 4 0) 5 0) 6 4) = true := wk_c (fun v hv => by
  rcases (by omega : v = 0 ∨ v = 1 ∨ v = 2) with rfl | rfl | rfl
  · exact wk9_0_0_1_0_0_4_0
  · exact wk9_0_0_1_0_0_4_1
  · exact wk9_0_0_1_0_0_4_2)
theorem wk9_0_0_1_0_0_5_0 : wk 9 2 8 6 (aw (aw (aw (aw (aw (aw (aw c0 1 0) 2 0) 3 1) 4 0) 5 0) 6 5) 7 0) = true := by decide +kernel
theorem wk9_0_0_1_0_0_5_1 : wk 9 2 8 7 (aw (aw (aw (aw (aw (aw (aw c0 1 0) 2 0) 3 1) 4 0) 5 0) 6 5) 7 1) = true := by decide +kernel
theorem wk9_0_0_1_0_0_5 : wk 9 3 7 6 (aw (aw (aw (aw (aw (aw c0 1 0) 2 0) 3 1) 4 0) 5 0) 6 5) = true := wk_c (fun v hv => by
  rcases (by omega : v = 0 ∨ v = 1) with rfl | rfl
  · exact wk9_0_0_1_0_0_5_0
  · exact wk9_0_0_1_0_0_5_1)
theorem wk9_0_0_1_0_0 : wk 9 4 6 1 (aw (aw (aw (aw (aw c0 1 0) 2 0) 3 1) 4 0) 5 0) = true := wk_c (fun v hv => by
  rcases (by omega : v = 0 ∨ v = 1 ∨ v = 2 ∨ v = 3 ∨ v = 4 ∨ v = 5) with rfl | rfl | rfl | rfl | rfl | rfl
  · exact wk9_0_0_1_0_0_0
  · exact wk9_0_0_1_0_0_1
  · exact wk9_0_0_1_0_0_2
  · exact wk9_0_0_1_0_0_3
  · exact wk9_0_0_1_0_0_4
  · exact wk9_0_0_1_0_0_5)
theorem wk9_0_0_1_0_1_0_0 : wk 9 2 8 2 (aw (aw (aw (aw (aw (aw (aw c0 1 0) 2 0) 3 1) 4 0) 5 1) 6 0) 7 0) = true := by decide +kernel
theorem wk9_0_0_1_0_1_0_1 : wk 9 2 8 3 (aw (aw (aw (aw (aw (aw (aw c0 1 0) 2 0) 3 1) 4 0) 5 1) 6 0) 7 1) = true := by decide +kernel
theorem wk9_0_0_1_0_1_0_2 : wk 9 2 8 4 (aw (aw (aw (aw (aw (aw (aw c0 1 0) 2 0) 3 1) 4 0) 5 1) 6 0) 7 2) = true := by decide +kernel
theorem wk9_0_0_1_0_1_0_3 : wk 9 2 8 5 (aw (aw (aw (aw (aw (aw (aw c0 1 0) 2 0) 3 1) 4 0) 5 1) 6 0) 7 3) = true := by decide +kernel
theorem wk9_0_0_1_0_1_0_4 : wk 9 2 8 6 (aw (aw (aw (aw (aw (aw (aw c0 1 0) 2 0) 3 1) 4 0) 5 1) 6 0) 7 4) = true := by decide +kernel
theorem wk9_0_0_1_0_1_0_5 : wk 9 2 8 7 (aw (aw (aw (aw (aw (aw (aw c0 1 0) 2 0) 3 1) 4 0) 5 1) 6 0) 7 5) = true := by decide +kernel
theorem wk9_0_0_1_0_1_0 : wk 9 3 7 2 (aw (aw (aw (aw (aw (aw c0 1 0) 2 0) 3 1) 4 0) 5 1) 6 0) = true := wk_c (fun v hv => by
  rcases (by omega : v = 0 ∨ v = 1 ∨ v = 2 ∨ v = 3 ∨ v = 4 ∨ v = 5) with rfl | rfl | rfl | rfl | rfl | rfl
  · exact wk9_0_0_1_0_1_0_0
  · exact wk9_0_0_1_0_1_0_1
  · exact wk9_0_0_1_0_1_0_2
  · exact wk9_0_0_1_0_1_0_3
  · exact wk9_0_0_1_0_1_0_4
  · exact wk9_0_0_1_0_1_0_5)
theorem wk9_0_0_1_0_1_1_0 : wk 9 2 8 3 (aw (aw (aw (aw (aw (aw (aw c0 1 0) 2 0) 3 1) 4 0) 5 1) 6 1) 7 0) = true := by decide +kernel
theorem wk9_0_0_1_0_1_1_1 : wk 9 2 8 4 (aw (aw (aw (aw (aw (aw (aw c0 1 0) 2 0) 3 1) 4 0) 5 1) 6 1) 7 1) = true := by decide +kernel
theorem wk9_0_0_1_0_1_1_2 : wk 9 2 8 5 (aw (aw (aw (aw (aw (aw (aw c0 1 0) 2 0) 3 1) 4 0) 5 1) 6 1) 7 2) = true := by decide +kernel
theorem wk9_0_0_1_0_1_1_3 : wk 9 2 8 6 (aw (aw (aw (aw (aw (aw (aw c0 1 0) 2 0) 3 1) 4 0) 5 1) 6 1) 7 3) = true := by decide +kernel
theorem wk9_0_0_1_0_1_1_4 : wk 9 2 8 7 (aw (aw (aw (aw (aw (aw (aw c0 1 0) 2 0) 3 1) 4 0) 5 1) 6 1) 7 4) = true := by decide +kernel
theorem wk9_0_0_1_0_1_1 : wk 9 3 7 3 (aw (aw (aw (aw (aw (aw c0 1 0) 2 0) 3 1) 4 0) 5 1) 6 1) = true := wk_c (fun v hv => by
  rcases (by omega : v = 0 ∨ v = 1 ∨ v = 2 ∨ v = 3 ∨ v = 4) with rfl | rfl | rfl | rfl | rfl
  · exact wk9_0_0_1_0_1_1_0
  · exact wk9_0_0_1_0_1_1_1
  · exact wk9_0_0_1_0_1_1_2
  · exact wk9_0_0_1_0_1_1_3
  · exact wk9_0_0_1_0_1_1_4)
theorem wk9_0_0_1_0_1_2_0 : wk 9 2 8 4 (aw (aw (aw (aw (aw (aw (aw c0 1 0) 2 0) 3 1) 4 0) 5 1) 6 2) 7 0) = true := by decide +kernel
theorem wk9_0_0_1_0_1_2_1 : wk 9 2 8 5 (aw (aw (aw (aw (aw (aw (aw c0 1 0) 2 0) 3 1) 4 0) 5 1) 6 2) 7 1) = true := by decide +kernel
theorem wk9_0_0_1_0_1_2_2 : wk 9 2 8 6 (aw (aw (aw (aw (aw (aw (aw c0 1 0) 2 0) 3 1) 4 0) 5 1) 6 2) 7 2) = true := by decide +kernel
theorem wk9_0_0_1_0_1_2_3 : wk 9 2 8 7 (aw (aw (aw (aw (aw (aw (aw c0 1 0) 2 0) 3 1) 4 0) 5 1) 6 2) 7 3) = true := by decide +kernel
theorem wk9_0_0_1_0_1_2 : wk 9 3 7 4 (aw (aw (aw (aw (aw (aw c0 1 0) 2 0) 3 1) 4 0) 5 1) 6 2) = true := wk_c (fun v hv => by
  rcases (by omega : v = 0 ∨ v = 1 ∨ v = 2 ∨ v = 3) with rfl | rfl | rfl | rfl
  · exact wk9_0_0_1_0_1_2_0
  · exact wk9_0_0_1_0_1_2_1
  · exact wk9_0_0_1_0_1_2_2
  · exact wk9_0_0_1_0_1_2_3)
theorem wk9_0_0_1_0_1_3_0 : wk 9 2 8 5 (aw (aw (aw (aw (aw (aw (aw c0 1 0) 2 0) 3 1) 4 0) 5 1) 6 3) 7 0) = true := by decide +kernel
theorem wk9_0_0_1_0_1_3_1 : wk 9 2 8 6 (aw (aw (aw (aw (aw (aw (aw c0 1 0) 2 0) 3 1) 4 0) 5 1) 6 3) 7 1) = true := by decide +kernel
theorem wk9_0_0_1_0_1_3_2 : wk 9 2 8 7 (aw (aw (aw (aw (aw (aw (aw c0 1 0) 2 0) 3 1) 4 0) 5 1) 6 3) 7 2) = true := by decide +kernel
theorem wk9_0_0_1_0_1_3 : wk 9 3 7 5 (aw (aw (aw (aw (aw (aw c0 1 0) 2 0) 3 1) 4 0) 5 1) 6 3) = true := wk_c (fun v hv => by
  rcases (by omega : v = 0 ∨ v = 1 ∨ v = 2) with rfl | rfl | rfl
  · exact wk9_0_0_1_0_1_3_0
  · exact wk9_0_0_1_0_1_3_1
  · exact wk9_0_0_1_0_1_3_2)
theorem wk9_0_0_1_0_1_4_0 : wk 9 2 8 6 (aw (aw (aw (aw (aw (aw (aw c0 1 0) 2 0) 3 1) 4 0) 5 1) 6 4) 7 0) = true := by decide +kernel
theorem wk9_0_0_1_0_1_4_1 : wk 9 2 8 7 (aw (aw (aw (aw (aw (aw (aw c0 1 0) 2 0) 3 1) 4 0) 5 1) 6 4) 7 1) = true := by decide +kernel
theorem wk9_0_0_1_0_1_4 : wk 9 3 7 6 (aw (aw (aw (aw (aw (aw c0 1 0) 2 0) 3 1) 4 0) 5 1) 6 4) = true := wk_c (fun v hv => by
  rcases (by omega : v = 0 ∨ v = 1) with rfl | rfl
  · exact wk9_0_0_1_0_1_4_0
  · exact wk9_0_0_1_0_1_4_1)
theorem wk9_0_0_1_0_1 : wk 9 4 6 2 (aw (aw (aw (aw (aw c0 1 0) 2 0) 3 1) 4 0) 5 1) = true := wk_c (fun v hv => by
  rcases (by omega : v = 0 ∨ v = 1 ∨ v = 2 ∨ v = 3 ∨ v = 4) with rfl | rfl | rfl | rfl | rfl
  · exact wk9_0_0_1_0_1_0
  · exact wk9_0_0_1_0_1_1
  · exact wk9_0_0_1_0_1_2
  · exact wk9_0_0_1_0_1_3
  · exact wk9_0_0_1_0_1_4)
theorem wk9_0_0_1_0_2_0_0 : wk 9 2 8 3 (aw (aw (aw (aw (aw (aw (aw c0 1 0) 2 0) 3 1) 4 0) 5 2) 6 0) 7 0) = true := by decide +kernel
theorem wk9_0_0_1_0_2_0_1 : wk 9 2 8 4 (aw (aw (aw (aw (aw (aw (aw c0 1 0) 2 0) 3 1) 4 0) 5 2) 6 0) 7 1) = true := by decide +kernel
theorem wk9_0_0_1_0_2_0_2 : wk 9 2 8 5 (aw (aw (aw (aw (aw (aw (aw c0 1 0) 2 0) 3 1) 4 0) 5 2) 6 0) 7 2) = true := by decide +kernel
theorem wk9_0_0_1_0_2_0_3 : wk 9 2 8 6 (aw (aw (aw (aw (aw (aw (aw c0 1 0) 2 0) 3 1) 4 0) 5 2) 6 0) 7 3) = true := by decide +kernel
theorem wk9_0_0_1_0_2_0_4 : wk 9 2 8 7 (aw (aw (aw (aw (aw (aw (aw c0 1 0) 2 0) 3 1) 4 0) 5 2) 6 0) 7 4) = true := by decide +kernel
theorem wk9_0_0_1_0_2_0 : wk 9 3 7 3 (aw (aw (aw (aw (aw (aw c0 1 0) 2 0) 3 1) 4 0) 5 2) 6 0) = true := wk_c (fun v hv => by
  rcases (by omega : v = 0 ∨ v = 1 ∨ v = 2 ∨ v = 3 ∨ v = 4) with rfl | rfl | rfl | rfl | rfl
  · exact wk9_0_0_1_0_2_0_0
  · exact wk9_0_0_1_0_2_0_1
  · exact wk9_0_0_1_0_2_0_2
  · exact wk9_0_0_1_0_2_0_3
  · exact wk9_0_0_1_0_2_0_4)
theorem wk9_0_0_1_0_2_1_0 : wk 9 2 8 4 (aw (aw (aw (aw (aw (aw (aw c0 1 0) 2 0) 3 1) 4 0) 5 2) 6 1) 7 0) = true := by decide +kernel
theorem wk9_0_0_1_0_2_1_1 : wk 9 2 8 5 (aw (aw (aw (aw (aw (aw (aw c0 1 0) 2 0) 3 1) 4 0) 5 2) 6 1) 7 1) = true := by decide +kernel
theorem wk9_0_0_1_0_2_1_2 : wk 9 2 8 6 (aw (aw (aw (aw (aw (aw (aw c0 1 0) 2 0) 3 1) 4 0) 5 2) 6 1) 7 2) = true := by decide +kernel
theorem wk9_0_0_1_0_2_1_3 : wk 9 2 8 7 (aw (aw (aw (aw (aw (aw (aw c0 1 0) 2 0) 3 1) 4 0) 5 2) 6 1) 7 3) = true := by decide +kernel
theorem wk9_0_0_1_0_2_1 : wk 9 3 7 4 (aw (aw (aw (aw (aw (aw c0 1 0) 2 0) 3 1) 4 0) 5 2) 6 1) = true := wk_c (fun v hv => by
  rcases (by omega : v = 0 ∨ v = 1 ∨ v = 2 ∨ v = 3) with rfl | rfl | rfl | rfl
  · exact wk9_0_0_1_0_2_1_0
  · exact wk9_0_0_1_0_2_1_1
  · exact wk9_0_0_1_0_2_1_2
  · exact wk9_0_0_1_0_2_1_3)
theorem wk9_0_0_1_0_2_2_0 : wk 9 2 8 5 (aw (aw (aw (aw (aw (aw (aw c0 1 0) 2 0) 3 1) 4 0) 5 2) 6 2) 7 0) = true := by decide +kernel
theorem wk9_0_0_1_0_2_2_1 : wk 9 2 8 6 (aw (aw (aw (aw (aw (aw (aw c0 1 0) 2 0) 3 1) 4 0) 5 2) 6 2) 7 1) = true := by decide +kernel
theorem wk9_0_0_1_0_2_2_2 : wk 9 2 8 7 (aw (aw (aw (aw (aw (aw (aw c0 1 0) 2 0) 3 1) 4 0) 5 2) 6 2) 7 2) = true := by decide +kernel
theorem wk9_0_0_1_0_2_2 : wk 9 3 7 5 (aw (aw (aw (aw (aw (aw c0 1 0) 2 0) 3 1) 4 0) 5 2) 6 2) = true := wk_c (fun v hv => by
  rcases (by omega : v = 0 ∨ v = 1 ∨ v = 2) with rfl | rfl | rfl
  · exact wk9_0_0_1_0_2_2_0
  · exact wk9_0_0_1_0_2_2_1
  · exact wk9_0_0_1_0_2_2_2)
theorem wk9_0_0_1_0_2_3_0 : wk 9 2 8 6 (aw (aw (aw (aw (aw (aw (aw c0 1 0) 2 0) 3 1) 4 0) 5 2) 6 3) 7 0) = true := by decide +kernel
theorem wk9_0_0_1_0_2_3_1 : wk 9 2 8 7 (aw (aw (aw (aw (aw (aw (aw c0 1 0) 2 0) 3 1) 4 0) 5 2) 6 3) 7 1) = true := by decide +kernel
theorem wk9_0_0_1_0_2_3 : wk 9 3 7 6 (aw (aw (aw (aw (aw (aw c0 1 0) 2 0) 3 1) 4 0) 5 2) 6 3) = true := wk_c (fun v hv => by
  rcases (by omega : v = 0 ∨ v = 1) with rfl | rfl
  · exact wk9_0_0_1_0_2_3_0
  · exact wk9_0_0_1_0_2_3_1)
theorem wk9_0_0_1_0_2 : wk 9 4 6 3 (aw (aw (aw (aw (aw c0 1 0) 2 0) 3 1) 4 0) 5 2) = true := wk_c (fun v hv => by
  rcases (by omega : v = 0 ∨ v = 1 ∨ v = 2 ∨ v = 3) with rfl | rfl | rfl | rfl
  · exact wk9_0_0_1_0_2_0
  · exact wk9_0_0_1_0_2_1
  · exact wk9_0_0_1_0_2_2
  · exact wk9_0_0_1_0_2_3)
theorem wk9_0_0_1_0_3_0_0 : wk 9 2 8 4 (aw (aw (aw (aw (aw (aw (aw c0 1 0) 2 0) 3 1) 4 0) 5 3) 6 0) 7 0) = true := by decide +kernel
theorem wk9_0_0_1_0_3_0_1 : wk 9 2 8 5 (aw (aw (aw (aw (aw (aw (aw c0 1 0) 2 0) 3 1) 4 0) 5 3) 6 0) 7 1) = true := by decide +kernel
theorem wk9_0_0_1_0_3_0_2 : wk 9 2 8 6 (aw (aw (aw (aw (aw (aw (aw c0 1 0) 2 0) 3 1) 4 0) 5 3) 6 0) 7 2) = true := by decide +kernel
theorem wk9_0_0_1_0_3_0_3 : wk 9 2 8 7 (aw (aw (aw (aw (aw (aw (aw c0 1 0) 2 0) 3 1) 4 0) 5 3) 6 0) 7 3) = true := by decide +kernel
theorem wk9_0_0_1_0_3_0 : wk 9 3 7 4 (aw (aw (aw (aw (aw (aw c0 1 0) 2 0) 3 1) 4 0) 5 3) 6 0) = true := wk_c (fun v hv => by
  rcases (by omega : v = 0 ∨ v = 1 ∨ v = 2 ∨ v = 3) with rfl | rfl | rfl | rfl
  · exact wk9_0_0_1_0_3_0_0
  · exact wk9_0_0_1_0_3_0_1
  · exact wk9_0_0_1_0_3_0_2
  · exact wk9_0_0_1_0_3_0_3)
theorem wk9_0_0_1_0_3_1_0 : wk 9 2 8 5 (aw (aw (aw (aw (aw (aw (aw c0 1 0) 2 0) 3 1) 4 0) 5 3) 6 1) 7 0) = true := by decide +kernel
theorem wk9_0_0_1_0_3_1_1 : wk 9 2 8 6 (aw (aw (aw (aw (aw (aw (aw c0 1 0) 2 0) 3 1) 4 0) 5 3) 6 1) 7 1) = true := by decide +kernel
theorem wk9_0_0_1_0_3_1_2 : wk 9 2 8 7 (aw (aw (aw (aw (aw (aw (aw c0 1 0) 2 0) 3 1) 4 0) 5 3) 6 1) 7 2) = true := by decide +kernel
theorem wk9_0_0_1_0_3_1 : wk 9 3 7 5 (aw (aw (aw (aw (aw (aw c0 1 0) 2 0) 3 1) 4 0) 5 3) 6 1) = true := wk_c (fun v hv => by
  rcases (by omega : v = 0 ∨ v = 1 ∨ v = 2) with rfl | rfl | rfl
  · exact wk9_0_0_1_0_3_1_0
  · exact wk9_0_0_1_0_3_1_1
  · exact wk9_0_0_1_0_3_1_2)
theorem wk9_0_0_1_0_3_2_0 : wk 9 2 8 6 (aw (aw (aw (aw (aw (aw (aw c0 1 0) 2 0) 3 1) 4 0) 5 3) 6 2) 7 0) = true := by decide +kernel
theorem wk9_0_0_1_0_3_2_1 : wk 9 2 8 7 (aw (aw (aw (aw (aw (aw (aw c0 1 0) 2 0) 3 1) 4 0) 5 3) 6 2) 7 1) = true := by decide +kernel
theorem wk9_0_0_1_0_3_2 : wk 9 3 7 6 (aw (aw (aw (aw (aw (aw c0 1 0) 2 0) 3 1) 4 0) 5 3) 6 2) = true := wk_c (fun v hv => by
  rcases (by omega : v = 0 ∨ v = 1) with rfl | rfl
  · exact wk9_0_0_1_0_3_2_0
  · exact wk9_0_0_1_0_3_2_1)
theorem wk9_0_0_1_0_3 : wk 9 4 6 4 (aw (aw (aw (aw (aw c0 1 0) 2 0) 3 1) 4 0) 5 3) = true := wk_c (fun v hv => by
  rcases (by omega : v = 0 ∨ v = 1 ∨ v = 2) with rfl | rfl | rfl
  · exact wk9_0_0_1_0_3_0
  · exact wk9_0_0_1_0_3_1
  · exact wk9_0_0_1_0_3_2)
theorem wk9_0_0_1_0_4_0_0 : wk 9 2 8 5 (aw (aw (aw (aw (aw (aw (aw c0 1 0) 2 0) 3 1) 4 0) 5 4) 6 0) 7 0) = true := by decide +kernel
theorem wk9_0_0_1_0_4_0_1 : wk 9 2 8 6 (aw (aw (aw (aw (aw (aw (aw c0 1 0) 2 0) 3 1) 4 0) 5 4) 6 0) 7 1) = true := by decide +kernel
theorem wk9_0_0_1_0_4_0_2 : wk 9 2 8 7 (aw (aw (aw (aw (aw (aw (aw c0 1 0) 2 0) 3 1) 4 0) 5 4) 6 0) 7 2) = true := by decide +kernel
theorem wk9_0_0_1_0_4_0 : wk 9 3 7 5 (aw (aw (aw (aw (aw (aw c0 1 0) 2 0) 3 1) 4 0) 5 4) 6 0) = true := wk_c (fun v hv => by
  rcases (by omega : v = 0 ∨ v = 1 ∨ v = 2) with rfl | rfl | rfl
  · exact wk9_0_0_1_0_4_0_0
  · exact wk9_0_0_1_0_4_0_1
  · exact wk9_0_0_1_0_4_0_2)
theorem wk9_0_0_1_0_4_1_0 : wk 9 2 8 6 (aw (aw (aw (aw (aw (aw (aw c0 1 0) 2 0) 3 1) 4 0) 5 4) 6 1) 7 0) = true := by decide +kernel
theorem wk9_0_0_1_0_4_1_1 : wk 9 2 8 7 (aw (aw (aw (aw (aw (aw (aw c0 1 0) 2 0) 3 1) 4 0) 5 4) 6 1) 7 1) = true := by decide +kernel
theorem wk9_0_0_1_0_4_1 : wk 9 3 7 6 (aw (aw (aw (aw (aw (aw c0 1 0) 2 0) 3 1) 4 0) 5 4) 6 1) = true := wk_c (fun v hv => by
  rcases (by omega : v = 0 ∨ v = 1) with rfl | rfl
  · exact wk9_0_0_1_0_4_1_0
  · exact wk9_0_0_1_0_4_1_1)
theorem wk9_0_0_1_0_4 : wk 9 4 6 5 (aw (aw (aw (aw (aw c0 1 0) 2 0) 3 1) 4 0) 5 4) = true := wk_c (fun v hv => by
  rcases (by omega : v = 0 ∨ v = 1) with rfl | rfl
  · exact wk9_0_0_1_0_4_0
  · exact wk9_0_0_1_0_4_1)
theorem wk9_0_0_1_0 : wk 9 5 5 1 (aw (aw (aw (aw c0 1 0) 2 0) 3 1) 4 0) = true := wk_c (fun v hv => by
  rcases (by omega : v = 0 ∨ v = 1 ∨ v = 2 ∨ v = 3 ∨ v = 4) with rfl | rfl | rfl | rfl | rfl
  · exact wk9_0_0_1_0_0
  · exact wk9_0_0_1_0_1
  · exact wk9_0_0_1_0_2
  · exact wk9_0_0_1_0_3
  · exact wk9_0_0_1_0_4)
theorem wk9_0_0_1_1_0_0_0 : wk 9 2 8 2 (aw (aw (aw (aw (aw (aw (aw c0 1 0) 2 0) 3 1) 4 1) 5 0) 6 0) 7 0) = true := by decide +kernel
theorem wk9_0_0_1_1_0_0_1 : wk 9 2 8 3 (aw (aw (aw (aw (aw (aw (aw c0 1 0) 2 0) 3 1) 4 1) 5 0) 6 0) 7 1) = true := by decide +kernel
theorem wk9_0_0_1_1_0_0_2 : wk 9 2 8 4 (aw (aw (aw (aw (aw (aw (aw c0 1 0) 2 0) 3 1) 4 1) 5 0) 6 0) 7 2) = true := by decide +kernel
theorem wk9_0_0_1_1_0_0_3 : wk 9 2 8 5 (aw (aw (aw (aw (aw (aw (aw c0 1 0) 2 0) 3 1) 4 1) 5 0) 6 0) 7 3) = true := by decide +kernel
theorem wk9_0_0_1_1_0_0_4 : wk 9 2 8 6 (aw (aw (aw (aw (aw (aw (aw c0 1 0) 2 0) 3 1) 4 1) 5 0) 6 0) 7 4) = true := by decide +kernel
theorem wk9_0_0_1_1_0_0_5 : wk 9 2 8 7 (aw (aw (aw (aw (aw (aw (aw c0 1 0) 2 0) 3 1) 4 1) 5 0) 6 0) 7 5) = true := by decide +kernel
theorem wk9_0_0_1_1_0_0 : wk 9 3 7 2 (aw (aw (aw (aw (aw (aw c0 1 0) 2 0) 3 1) 4 1) 5 0) 6 0) = true := wk_c (fun v hv => by
  rcases (by omega : v = 0 ∨ v = 1 ∨ v = 2 ∨ v = 3 ∨ v = 4 ∨ v = 5) with rfl | rfl | rfl | rfl | rfl | rfl
  · exact wk9_0_0_1_1_0_0_0
  · exact wk9_0_0_1_1_0_0_1
  · exact wk9_0_0_1_1_0_0_2
  · exact wk9_0_0_1_1_0_0_3
  · exact wk9_0_0_1_1_0_0_4
  · exact wk9_0_0_1_1_0_0_5)
theorem wk9_0_0_1_1_0_1_0 : wk 9 2 8 3 (aw (aw (aw (aw (aw (aw (aw c0 1 0) 2 0) 3 1) 4 1) 5 0) 6 1) 7 0) = true := by decide +kernel
theorem wk9_0_0_1_1_0_1_1 : wk 9 2 8 4 (aw (aw (aw (aw (aw (aw (aw c0 1 0) 2 0) 3 1) 4 1) 5 0) 6 1) 7 1) = true := by decide +kernel
theorem wk9_0_0_1_1_0_1_2 : wk 9 2 8 5 (aw (aw (aw (aw (aw (aw (aw c0 1 0) 2 0) 3 1) 4 1) 5 0) 6 1) 7 2) = true := by decide +kernel
theorem wk9_0_0_1_1_0_1_3 : wk 9 2 8 6 (aw (aw (aw (aw (aw (aw (aw c0 1 0) 2 0) 3 1) 4 1) 5 0) 6 1) 7 3) = true := by decide +kernel
theorem wk9_0_0_1_1_0_1_4 : wk 9 2 8 7 (aw (aw (aw (aw (aw (aw (aw c0 1 0) 2 0) 3 1) 4 1) 5 0) 6 1) 7 4) = true := by decide +kernel
theorem wk9_0_0_1_1_0_1 : wk 9 3 7 3 (aw (aw (aw (aw (aw (aw c0 1 0) 2 0) 3 1) 4 1) 5 0) 6 1) = true := wk_c (fun v hv => by
  rcases (by omega : v = 0 ∨ v = 1 ∨ v = 2 ∨ v = 3 ∨ v = 4) with rfl | rfl | rfl | rfl | rfl
  · exact wk9_0_0_1_1_0_1_0
  · exact wk9_0_0_1_1_0_1_1
  · exact wk9_0_0_1_1_0_1_2
  · exact wk9_0_0_1_1_0_1_3
  · exact wk9_0_0_1_1_0_1_4)
theorem wk9_0_0_1_1_0_2_0 : wk 9 2 8 4 (aw (aw (aw (aw (aw (aw (aw c0 1 0) 2 0) 3 1) 4 1) 5 0) 6 2) 7 0) = true := by decide +kernel
theorem wk9_0_0_1_1_0_2_1 : wk 9 2 8 5 (aw (aw (aw (aw (aw (aw (aw c0 1 0) 2 0) 3 1) 4 1) 5 0) 6 2) 7 1) = true := by decide +kernel
theorem wk9_0_0_1_1_0_2_2 : wk 9 2 8 6 (aw (aw (aw (aw (aw (aw (aw c0 1 0) 2 0) 3 1) 4 1) 5 0) 6 2) 7 2) = true := by decide +kernel
theorem wk9_0_0_1_1_0_2_3 : wk 9 2 8 7 (aw (aw (aw (aw (aw (aw (aw c0 1 0) 2 0) 3 1) 4 1) 5 0) 6 2) 7 3) = true := by decide +kernel
theorem wk9_0_0_1_1_0_2 : wk 9 3 7 4 (aw (aw (aw (aw (aw (aw c0 1 0) 2 0) 3 1) 4 1) 5 0) 6 2) = true := wk_c (fun v hv => by
  rcases (by omega : v = 0 ∨ v = 1 ∨ v = 2 ∨ v = 3) with rfl | rfl | rfl | rfl
  · exact wk9_0_0_1_1_0_2_0
  · exact wk9_0_0_1_1_0_2_1
  · exact wk9_0_0_1_1_0_2_2
  · exact wk9_0_0_1_1_0_2_3)
theorem wk9_0_0_1_1_0_3_0 : wk 9 2 8 5 (aw (aw (aw (aw (aw (aw (aw c0 1 0) 2 0) 3 1) 4 1) 5 0) 6 3) 7 0) = true := by decide +kernel
theorem wk9_0_0_1_1_0_3_1 : wk 9 2 8 6 (aw (aw (aw (aw (aw (aw (aw c0 1 0) 2 0) 3 1) 4 1) 5 0) 6 3) 7 1) = true := by decide +kernel
theorem wk9_0_0_1_1_0_3_2 : wk 9 2 8 7 (aw (aw (aw (aw (aw (aw (aw c0 1 0) 2 0) 3 1) 4 1) 5 0) 6 3) 7 2) = true := by decide +kernel
theorem wk9_0_0_1_1_0_3 : wk 9 3 7 5 (aw (aw (aw (aw (aw (aw c0 1 0) 2 0) 3 1) 4 1) 5 0) 6 3) = true := wk_c (fun v hv => by
  rcases (by omega : v = 0 ∨ v = 1 ∨ v = 2) with rfl | rfl | rfl
  · exact wk9_0_0_1_1_0_3_0
  · exact wk9_0_0_1_1_0_3_1
  · exact wk9_0_0_1_1_0_3_2)
theorem wk9_0_0_1_1_0_4_0 : wk 9 2 8 6 (aw (aw (aw (aw (aw (aw (aw c0 1 0) 2 0) 3 1) 4 1) 5 0) 6 4) 7 0) = true := by decide +kernel
theorem wk9_0_0_1_1_0_4_1 : wk 9 2 8 7 (aw (aw (aw (aw (aw (aw (aw c0 1 0) 2 0) 3 1) 4 1) 5 0) 6 4) 7 1) = true := by decide +kernel
theorem wk9_0_0_1_1_0_4 : wk 9 3 7 6 (aw (aw (aw (aw (aw (aw c0 1 0) 2 0) 3 1) 4 1) 5 0) 6 4) = true := wk_c (fun v hv => by
  rcases (by omega : v = 0 ∨ v = 1) with rfl | rfl
  · exact wk9_0_0_1_1_0_4_0
  · exact wk9_0_0_1_1_0_4_1)
theorem wk9_0_0_1_1_0 : wk 9 4 6 2 (aw (aw (aw (aw (aw c0 1 0) 2 0) 3 1) 4 1) 5 0) = true := wk_c (fun v hv => by
  rcases (by omega : v = 0 ∨ v = 1 ∨ v = 2 ∨ v = 3 ∨ v = 4) with rfl | rfl | rfl | rfl | rfl
  · exact wk9_0_0_1_1_0_0
  · exact wk9_0_0_1_1_0_1
  · exact wk9_0_0_1_1_0_2
  · exact wk9_0_0_1_1_0_3
  · exact wk9_0_0_1_1_0_4)
theorem wk9_0_0_1_1_1_0_0 : wk 9 2 8 3 (aw (aw (aw (aw (aw (aw (aw c0 1 0) 2 0) 3 1) 4 1) 5 1) 6 0) 7 0) = true := by decide +kernel
theorem wk9_0_0_1_1_1_0_1 : wk 9 2 8 4 (aw (aw (aw (aw (aw (aw (aw c0 1 0) 2 0) 3 1) 4 1) 5 1) 6 0) 7 1) = true := by decide +kernel
theorem wk9_0_0_1_1_1_0_2 : wk 9 2 8 5 (aw (aw (aw (aw (aw (aw (aw c0 1 0) 2 0) 3 1) 4 1) 5 1) 6 0) 7 2) = true := by decide +kernel
theorem wk9_0_0_1_1_1_0_3 : wk 9 2 8 6 (aw (aw (aw (aw (aw (aw (aw c0 1 0) 2 0) 3 1) 4 1) 5 1) 6 0) 7 3) = true := by decide +kernel
theorem wk9_0_0_1_1_1_0_4 : wk 9 2 8 7 (aw (aw (aw (aw (aw (aw (aw c0 1 0) 2 0) 3 1) 4 1) 5 1) 6 0) 7 4) = true := by decide +kernel
theorem wk9_0_0_1_1_1_0 : wk 9 3 7 3 (aw (aw (aw (aw (aw (aw c0 1 0) 2 0) 3 1) 4 1) 5 1) 6 0) = true := wk_c (fun v hv => by
  rcases (by omega : v = 0 ∨ v = 1 ∨ v = 2 ∨ v = 3 ∨ v = 4) with rfl | rfl | rfl | rfl | rfl
  · exact wk9_0_0_1_1_1_0_0
  · exact wk9_0_0_1_1_1_0_1
  · exact wk9_0_0_1_1_1_0_2
  · exact wk9_0_0_1_1_1_0_3
  · exact wk9_0_0_1_1_1_0_4)
theorem wk9_0_0_1_1_1_1_0 : wk 9 2 8 4 (aw (aw (aw (aw (aw (aw (aw c0 1 0) 2 0) 3 1) 4 1) 5 1) 6 1) 7 0) = true := by decide +kernel
theorem wk9_0_0_1_1_1_1_1 : wk 9 2 8 5 (aw (aw (aw (aw (aw (aw (aw c0 1 0) 2 0) 3 1) 4 1) 5 1) 6 1) 7 1) = true := by decide +kernel
theorem wk9_0_0_1_1_1_1_2 : wk 9 2 8 6 (aw (aw (aw (aw (aw (aw (aw c0 1 0) 2 0) 3 1) 4 1) 5 1) 6 1) 7 2) = true := by decide +kernel
theorem wk9_0_0_1_1_1_1_3 : wk 9 2 8 7 (aw (aw (aw (aw (aw (aw (aw c0 1 0) 2 0) 3 1) 4 1) 5 1) 6 1) 7 3) = true := by decide +kernel
theorem wk9_0_0_1_1_1_1 : wk 9 3 7 4 (aw (aw (aw (aw (aw (aw c0 1 0) 2 0) 3 1) 4 1) 5 1) 6 1) = true := wk_c (fun v hv => by
  rcases (by omega : v = 0 ∨ v = 1 ∨ v = 2 ∨ v = 3) with rfl | rfl | rfl | rfl
  · exact wk9_0_0_1_1_1_1_0
  · exact wk9_0_0_1_1_1_1_1
  · exact wk9_0_0_1_1_1_1_2
  · exact wk9_0_0_1_1_1_1_3)
theorem wk9_0_0_1_1_1_2_0 : wk 9 2 8 5 (aw (aw (aw (aw (aw (aw (aw c0 1 0) 2 0) 3 1) 4 1) 5 1) 6 2) 7 0) = true := by decide +kernel
theorem wk9_0_0_1_1_1_2_1 : wk 9 2 8 6 (aw (aw (aw (aw (aw (aw (aw c0 1 0) 2 0) 3 1) 4 1) 5 1) 6 2) 7 1) = true := by decide +kernel
theorem wk9_0_0_1_1_1_2_2 : wk 9 2 8 7 (aw (aw (aw (aw (aw (aw (aw c0 1 0) 2 0) 3 1) 4 1) 5 1) 6 2) 7 2) = true := by decide +kernel
theorem wk9_0_0_1_1_1_2 : wk 9 3 7 5 (aw (aw (aw (aw (aw (aw c0 1 0) 2 0) 3 1) 4 1) 5 1) 6 2) = true := wk_c (fun v hv => by
  rcases (by omega : v = 0 ∨ v = 1 ∨ v = 2) with rfl | rfl | rfl
  · exact wk9_0_0_1_1_1_2_0
  · exact wk9_0_0_1_1_1_2_1
  · exact wk9_0_0_1_1_1_2_2)
theorem wk9_0_0_1_1_1_3_0 : wk 9 2 8 6 (aw (aw (aw (aw (aw (aw (aw c0 1 0) 2 0) 3 1) 4 1) 5 1) 6 3) 7 0) = true := by decide +kernel
theorem wk9_0_0_1_1_1_3_1 : wk 9 2 8 7 (aw (aw (aw (aw (aw (aw (aw c0 1 0) 2 0) 3 1) 4 1) 5 1) 6 3) 7 1) = true := by decide +kernel
theorem wk9_0_0_1_1_1_3 : wk 9 3 7 6 (aw (aw (aw (aw (aw (aw c0 1 0) 2 0) 3 1) 4 1) 5 1) 6 3) = true := wk_c (fun v hv => by
  rcases (by omega : v = 0 ∨ v = 1) with rfl | rfl
  · exact wk9_0_0_1_1_1_3_0
  · exact wk9_0_0_1_1_1_3_1)
theorem wk9_0_0_1_1_1 : wk 9 4 6 3 (aw (aw (aw (aw (aw c0 1 0) 2 0) 3 1) 4 1) 5 1) = true := wk_c (fun v hv => by
  rcases (by omega : v = 0 ∨ v = 1 ∨ v = 2 ∨ v = 3) with rfl | rfl | rfl | rfl
  · exact wk9_0_0_1_1_1_0
  · exact wk9_0_0_1_1_1_1
  · exact wk9_0_0_1_1_1_2
  · exact wk9_0_0_1_1_1_3)
theorem wk9_0_0_1_1_2_0_0 : wk 9 2 8 4 (aw (aw (aw (aw (aw (aw (aw c0 1 0) 2 0) 3 1) 4 1) 5 2) 6 0) 7 0) = true := by decide +kernel
theorem wk9_0_0_1_1_2_0_1 : wk 9 2 8 5 (aw (aw (aw (aw (aw (aw (aw c0 1 0) 2 0) 3 1) 4 1) 5 2) 6 0) 7 1) = true := by decide +kernel
theorem wk9_0_0_1_1_2_0_2 : wk 9 2 8 6 (aw (aw (aw (aw (aw (aw (aw c0 1 0) 2 0) 3 1) 4 1) 5 2) 6 0) 7 2) = true := by decide +kernel
theorem wk9_0_0_1_1_2_0_3 : wk 9 2 8 7 (aw (aw (aw (aw (aw (aw (aw c0 1 0) 2 0) 3 1) 4 1) 5 2) 6 0) 7 3) = true := by decide +kernel
theorem wk9_0_0_1_1_2_0 : wk 9 3 7 4 (aw (aw (aw (aw (aw (aw c0 1 0) 2 0) 3 1) 4 1) 5 2) 6 0) = true := wk_c (fun v hv => by
  rcases (by omega : v = 0 ∨ v = 1 ∨ v = 2 ∨ v = 3) with rfl | rfl | rfl | rfl
  · exact wk9_0_0_1_1_2_0_0
  · exact wk9_0_0_1_1_2_0_1
  · exact wk9_0_0_1_1_2_0_2
  · exact wk9_0_0_1_1_2_0_3)
theorem wk9_0_0_1_1_2_1_0 : wk 9 2 8 5 (aw (aw (aw (aw (aw (aw (aw c0 1 0) 2 0) 3 1) 4 1) 5 2) 6 1) 7 0) = true := by decide +kernel
theorem wk9_0_0_1_1_2_1_1 : wk 9 2 8 6 (aw (aw (aw (aw (aw (aw (aw c0 1 0) 2 0) 3 1) 4 1) 5 2) 6 1) 7 1) = true := by decide +kernel
theorem wk9_0_0_1_1_2_1_2 : wk 9 2 8 7 (aw (aw (aw (aw (aw (aw (aw c0 1 0) 2 0) 3 1) 4 1) 5 2) 6 1) 7 2) = true := by decide +kernel
theorem wk9_0_0_1_1_2_1 : wk 9 3 7 5 (aw (aw (aw (aw (aw (aw c0 1 0) 2 0) 3 1) 4 1) 5 2) 6 1) = true := wk_c (fun v hv => by
  rcases (by omega : v = 0 ∨ v = 1 ∨ v = 2) with rfl | rfl | rfl
  · exact wk9_0_0_1_1_2_1_0
  · exact wk9_0_0_1_1_2_1_1
  · exact wk9_0_0_1_1_2_1_2)
theorem wk9_0_0_1_1_2_2_0 : wk 9 2 8 6 (aw (aw (aw (aw (aw (aw (aw c0 1 0) 2 0) 3 1) 4 1) 5 2) 6 2) 7 0) = true := by decide +kernel
theorem wk9_0_0_1_1_2_2_1 : wk 9 2 8 7 (aw (aw (aw (aw (aw (aw (aw c0 1 0) 2 0) 3 1) 4 1) 5 2) 6 2) 7 1) = true := by decide +kernel
theorem wk9_0_0_1_1_2_2 : wk 9 3 7 6 (aw (aw (aw (aw (aw (aw c0 1 0) 2 0) 3 1) 4 1) 5 2) 6 2) = true := wk_c (fun v hv => by
  rcases (by omega : v = 0 ∨ v = 1) with rfl | rfl
  · exact wk9_0_0_1_1_2_2_0
  · exact wk9_0_0_1_1_2_2_1)
theorem wk9_0_0_1_1_2 : wk 9 4 6 4 (aw (aw (aw (aw (aw c0 1 0) 2 0) 3 1) 4 1) 5 2) = true := wk_c (fun v hv => by
  rcases (by omega : v = 0 ∨ v = 1 ∨ v = 2) with rfl | rfl | rfl
  · exact wk9_0_0_1_1_2_0
  · exact wk9_0_0_1_1_2_1
  · exact wk9_0_0_1_1_2_2)
theorem wk9_0_0_1_1_3_0_0 : wk 9 2 8 5 (aw (aw (aw (aw (aw (aw (aw c0 1 0) 2 0) 3 1) 4 1) 5 3) 6 0) 7 0) = true := by decide +kernel
theorem wk9_0_0_1_1_3_0_1 : wk 9 2 8 6 (aw (aw (aw (aw (aw (aw (aw c0 1 0) 2 0) 3 1) 4 1) 5 3) 6 0) 7 1) = true := by decide +kernel
theorem wk9_0_0_1_1_3_0_2 : wk 9 2 8 7 (aw (aw (aw (aw (aw (aw (aw c0 1 0) 2 0) 3 1) 4 1) 5 3) 6 0) 7 2) = true := by decide +kernel
theorem wk9_0_0_1_1_3_0 : wk 9 3 7 5 (aw (aw (aw (aw (aw (aw c0 1 0) 2 0) 3 1) 4 1) 5 3) 6 0) = true := wk_c (fun v hv => by
  rcases (by omega : v = 0 ∨ v = 1 ∨ v = 2) with rfl | rfl | rfl
  · exact wk9_0_0_1_1_3_0_0
  · exact wk9_0_0_1_1_3_0_1
  · exact wk9_0_0_1_1_3_0_2)
theorem wk9_0_0_1_1_3_1_0 : wk 9 2 8 6 (aw (aw (aw (aw (aw (aw (aw c0 1 0) 2 0) 3 1) 4 1) 5 3) 6 1) 7 0) = true := by decide +kernel
theorem wk9_0_0_1_1_3_1_1 : wk 9 2 8 7 (aw (aw (aw (aw (aw (aw (aw c0 1 0) 2 0) 3 1) 4 1) 5 3) 6 1) 7 1) = true := by decide +kernel
theorem wk9_0_0_1_1_3_1 : wk 9 3 7 6 (aw (aw (aw (aw (aw (aw c0 1 0) 2 0) 3 1) 4 1) 5 3) 6 1) = true := wk_c (fun v hv => by
  rcases (by omega : v = 0 ∨ v = 1) with rfl | rfl
  · exact wk9_0_0_1_1_3_1_0
  · exact wk9_0_0_1_1_3_1_1)
theorem wk9_0_0_1_1_3 : wk 9 4 6 5 (aw (aw (aw (aw (aw c0 1 0) 2 0) 3 1) 4 1) 5 3) = true := wk_c (fun v hv => by
  rcases (by omega : v = 0 ∨ v = 1) with rfl | rfl
  · exact wk9_0_0_1_1_3_0
  · exact wk9_0_0_1_1_3_1)
theorem wk9_0_0_1_1 : wk 9 5 5 2 (aw (aw (aw (aw c0 1 0) 2 0) 3 1) 4 1) = true := wk_c (fun v hv => by
  rcases (by omega : v = 0 ∨ v = 1 ∨ v = 2 ∨ v = 3) with rfl | rfl | rfl | rfl
  · exact wk9_0_0_1_1_0
  · exact wk9_0_0_1_1_1
  · exact wk9_0_0_1_1_2
  · exact wk9_0_0_1_1_3)
theorem wk9_0_0_1_2_0_0_0 : wk 9 2 8 3 (aw (aw (aw (aw (aw (aw (aw c0 1 0) 2 0) 3 1) 4 2) 5 0) 6 0) 7 0) = true := by decide +kernel
theorem wk9_0_0_1_2_0_0_1 : wk 9 2 8 4 (aw (aw (aw (aw (aw (aw (aw c0 1 0) 2 0) 3 1) 4 2) 5 0) 6 0) 7 1) = true := by decide +kernel
theorem wk9_0_0_1_2_0_0_2 : wk 9 2 8 5 (aw (aw (aw (aw (aw (aw (aw c0 1 0) 2 0) 3 1) 4 2) 5 0) 6 0) 7 2) = true := by decide +kernel
theorem wk9_0_0_1_2_0_0_3 : wk 9 2 8 6 (aw (aw (aw (aw (aw (aw (aw c0 1 0) 2 0) 3 1) 4 2) 5 0) 6 0) 7 3) = true := by decide +kernel
theorem wk9_0_0_1_2_0_0_4 : wk 9 2 8 7 (aw (aw (aw (aw (aw (aw (aw c0 1 0) 2 0) 3 1) 4 2) 5 0) 6 0) 7 4) = true := by decide +kernel
theorem wk9_0_0_1_2_0_0 : wk 9 3 7 3 (aw (aw (aw (aw (aw (aw c0 1 0) 2 0) 3 1) 4 2) 5 0) 6 0) = true := wk_c (fun v hv => by
  rcases (by omega : v = 0 ∨ v = 1 ∨ v = 2 ∨ v = 3 ∨ v = 4) with rfl | rfl | rfl | rfl | rfl
  · exact wk9_0_0_1_2_0_0_0
  · exact wk9_0_0_1_2_0_0_1
  · exact wk9_0_0_1_2_0_0_2
  · exact wk9_0_0_1_2_0_0_3
  · exact wk9_0_0_1_2_0_0_4)
theorem wk9_0_0_1_2_0_1_0 : wk 9 2 8 4 (aw (aw (aw (aw (aw (aw (aw c0 1 0) 2 0) 3 1) 4 2) 5 0) 6 1) 7 0) = true := by decide +kernel
theorem wk9_0_0_1_2_0_1_1 : wk 9 2 8 5 (aw (aw (aw (aw (aw (aw (aw c0 1 0) 2 0) 3 1) 4 2) 5 0) 6 1) 7 1) = true := by decide +kernel
theorem wk9_0_0_1_2_0_1_2 : wk 9 2 8 6 (aw (aw (aw (aw (aw (aw (aw c0 1 0) 2 0) 3 1) 4 2) 5 0) 6 1) 7 2) = true := by decide +kernel
theorem wk9_0_0_1_2_0_1_3 : wk 9 2 8 7 (aw (aw (aw (aw (aw (aw (aw c0 1 0) 2 0) 3 1) 4 2) 5 0) 6 1) 7 3) = true := by decide +kernel
theorem wk9_0_0_1_2_0_1 : wk 9 3 7 4 (aw (aw (aw (aw (aw (aw c0 1 0) 2 0) 3 1) 4 2) 5 0) 6 1) = true := wk_c (fun v hv => by
  rcases (by omega : v = 0 ∨ v = 1 ∨ v = 2 ∨ v = 3) with rfl | rfl | rfl | rfl
  · exact wk9_0_0_1_2_0_1_0
  · exact wk9_0_0_1_2_0_1_1
  · exact wk9_0_0_1_2_0_1_2
  · exact wk9_0_0_1_2_0_1_3)
theorem wk9_0_0_1_2_0_2_0 : wk 9 2 8 5 (aw (aw (aw (aw (aw (aw (aw c0 1 0) 2 0) 3 1) 4 2) 5 0) 6 2) 7 0) = true := by decide +kernel
theorem wk9_0_0_1_2_0_2_1 : wk 9 2 8 6 (aw (aw (aw (aw (aw (aw (aw c0 1 0) 2 0) 3 1) 4 2) 5 0) 6 2) 7 1) = true := by decide +kernel
theorem wk9_0_0_1_2_0_2_2 : wk 9 2 8 7 (aw (aw (aw (aw (aw (aw (aw c0 1 0) 2 0) 3 1) 4 2) 5 0) 6 2) 7 2) = true := by decide +kernel
theorem wk9_0_0_1_2_0_2 : wk 9 3 7 5 (aw (aw (aw (aw (aw (aw c0 1 0) 2 0) 3 1) 4 2) 5 0) 6 2) = true := wk_c (fun v hv => by
  rcases (by omega : v = 0 ∨ v = 1 ∨ v = 2) with rfl | rfl | rfl
  · exact wk9_0_0_1_2_0_2_0
  · exact wk9_0_0_1_2_0_2_1
  · exact wk9_0_0_1_2_0_2_2)
theorem wk9_0_0_1_2_0_3_0 : wk 9 2 8 6 (aw (aw (aw (aw (aw (aw (aw c0 1 0) 2 0) 3 1) 4 2) 5 0) 6 3) 7 0) = true := by decide +kernel
theorem wk9_0_0_1_2_0_3_1 : wk 9 2 8 7 (aw (aw (aw (aw (aw (aw (aw c0 1 0) 2 0) 3 1) 4 2) 5 0) 6 3) 7 1) = true := by decide +kernel
theorem wk9_0_0_1_2_0_3 : wk 9 3 7 6 (aw (aw (aw (aw (aw (aw c0 1 0) 2 0) 3 1) 4 2) 5 0) 6 3) = true := wk_c (fun v hv => by
  rcases (by omega : v = 0 ∨ v = 1) with rfl | rfl
  · exact wk9_0_0_1_2_0_3_0
  · exact wk9_0_0_1_2_0_3_1)
theorem wk9_0_0_1_2_0 : wk 9 4 6 3 (aw (aw (aw (aw (aw c0 1 0) 2 0) 3 1) 4 2) 5 0) = true := wk_c (fun v hv => by
  rcases (by omega : v = 0 ∨ v = 1 ∨ v = 2 ∨ v = 3) with rfl | rfl | rfl | rfl
  · exact wk9_0_0_1_2_0_0
  · exact wk9_0_0_1_2_0_1
  · exact wk9_0_0_1_2_0_2
  · exact wk9_0_0_1_2_0_3)
theorem wk9_0_0_1_2_1_0_0 : wk 9 2 8 4 (aw (aw (aw (aw (aw (aw (aw c0 1 0) 2 0) 3 1) 4 2) 5 1) 6 0) 7 0) = true := by decide +kernel
theorem wk9_0_0_1_2_1_0_1 : wk 9 2 8 5 (aw (aw (aw (aw (aw (aw (aw c0 1 0) 2 0) 3 1) 4 2) 5 1) 6 0) 7 1) = true := by decide +kernel
theorem wk9_0_0_1_2_1_0_2 : wk 9 2 8 6 (aw (aw (aw (aw (aw (aw (aw c0 1 0) 2 0) 3 1) 4 2) 5 1) 6 0) 7 2) = true := by decide +kernel
theorem wk9_0_0_1_2_1_0_3 : wk 9 2 8 7 (aw (aw (aw (aw (aw (aw (aw c0 1 0) 2 0) 3 1) 4 2) 5 1) 6 0) 7 3) = true := by decide +kernel
theorem wk9_0_0_1_2_1_0 : wk 9 3 7 4 (aw (aw (aw (aw (aw (aw c0 1 0) 2 0) 3 1) 4 2) 5 1) 6 0) = true := wk_c (fun v hv => by
  rcases (by omega : v = 0 ∨ v = 1 ∨ v = 2 ∨ v = 3) with rfl | rfl | rfl | rfl
  · exact wk9_0_0_1_2_1_0_0
  · exact wk9_0_0_1_2_1_0_1
  · exact wk9_0_0_1_2_1_0_2
  · exact wk9_0_0_1_2_1_0_3)
theorem wk9_0_0_1_2_1_1_0 : wk 9 2 8 5 (aw (aw (aw (aw (aw (aw (aw c0 1 0) 2 0) 3 1) 4 2) 5 1) 6 1) 7 0) = true := by decide +kernel
theorem wk9_0_0_1_2_1_1_1 : wk 9 2 8 6 (aw (aw (aw (aw (aw (aw (aw c0 1 0) 2 0) 3 1) 4 2) 5 1) 6 1) 7 1) = true := by decide +kernel
theorem wk9_0_0_1_2_1_1_2 : wk 9 2 8 7 (aw (aw (aw (aw (aw (aw (aw c0 1 0) 2 0) 3 1) 4 2) 5 1) 6 1) 7 2) = true := by decide +kernel
theorem wk9_0_0_1_2_1_1 : wk 9 3 7 5 (aw (aw (aw (aw (aw (aw c0 1 0) 2 0) 3 1) 4 2) 5 1) 6 1) = true := wk_c (fun v hv => by
  rcases (by omega : v = 0 ∨ v = 1 ∨ v = 2) with rfl | rfl | rfl
  · exact wk9_0_0_1_2_1_1_0
  · exact wk9_0_0_1_2_1_1_1
  · exact wk9_0_0_1_2_1_1_2)
theorem wk9_0_0_1_2_1_2_0 : wk 9 2 8 6 (aw (aw (aw (aw (aw (aw (aw c0 1 0) 2 0) 3 1) 4 2) 5 1) 6 2) 7 0) = true := by decide +kernel
theorem wk9_0_0_1_2_1_2_1 : wk 9 2 8 7 (aw (aw (aw (aw (aw (aw (aw c0 1 0) 2 0) 3 1) 4 2) 5 1) 6 2) 7 1) = true := by decide +kernel
theorem wk9_0_0_1_2_1_2 : wk 9 3 7 6 (aw (aw (aw (aw (aw (aw c0 1 0) 2 0) 3 1) 4 2) 5 1) 6 2) = true := wk_c (fun v hv => by
  rcases (by omega : v = 0 ∨ v = 1) with rfl | rfl
  · exact wk9_0_0_1_2_1_2_0
  · exact wk9_0_0_1_2_1_2_1)
theorem wk9_0_0_1_2_1 : wk 9 4 6 4 (aw (aw (aw (aw (aw c0 1 0) 2 0) 3 1) 4 2) 5 1) = true := wk_c (fun v hv => by
  rcases (by omega : v = 0 ∨ v = 1 ∨ v = 2) with rfl | rfl | rfl
  · exact wk9_0_0_1_2_1_0
  · exact wk9_0_0_1_2_1_1
  · exact wk9_0_0_1_2_1_2)
theorem wk9_0_0_1_2_2_0_0 : wk 9 2 8 5 (aw (aw (aw (aw (aw (aw (aw c0 1 0) 2 0) 3 1) 4 2) 5 2) 6 0) 7 0) = true := by decide +kernel
theorem wk9_0_0_1_2_2_0_1 : wk 9 2 8 6 (aw (aw (aw (aw (aw (aw (aw c0 1 0) 2 0) 3 1) 4 2) 5 2) 6 0) 7 1) = true := by decide +kernel
theorem wk9_0_0_1_2_2_0_2 : wk 9 2 8 7 (aw (aw (aw (aw (aw (aw (aw c0 1 0) 2 0) 3 1) 4 2) 5 2) 6 0) 7 2) = true := by decide +kernel
theorem wk9_0_0_1_2_2_0 : wk 9 3 7 5 (aw (aw (aw (aw (aw (aw c0 1 0) 2 0) 3 1) 4 2) 5 2) 6 0) = true := wk_c (fun v hv => by
  rcases (by omega : v = 0 ∨ v = 1 ∨ v = 2) with rfl | rfl | rfl
  · exact wk9_0_0_1_2_2_0_0
  · exact wk9_0_0_1_2_2_0_1
  · exact wk9_0_0_1_2_2_0_2)
theorem wk9_0_0_1_2_2_1_0 : wk 9 2 8 6 (aw (aw (aw (aw (aw (aw (aw c0 1 0) 2 0) 3 1) 4 2) 5 2) 6 1) 7 0) = true := by decide +kernel
theorem wk9_0_0_1_2_2_1_1 : wk 9 2 8 7 (aw (aw (aw (aw (aw (aw (aw c0 1 0) 2 0) 3 1) 4 2) 5 2) 6 1) 7 1) = true := by decide +kernel
theorem wk9_0_0_1_2_2_1 : wk 9 3 7 6 (aw (aw (aw (aw (aw (aw c0 1 0) 2 0) 3 1) 4 2) 5 2) 6 1) = true := wk_c (fun v hv => by
  rcases (by omega : v = 0 ∨ v = 1) with rfl | rfl
  · exact wk9_0_0_1_2_2_1_0
  · exact wk9_0_0_1_2_2_1_1)
theorem wk9_0_0_1_2_2 : wk 9 4 6 5 (aw (aw (aw (aw (aw c0 1 0) 2 0) 3 1) 4 2) 5 2) = true := wk_c (fun v hv => by
  rcases (by omega : v = 0 ∨ v = 1) with rfl | rfl
  · exact wk9_0_0_1_2_2_0
  · exact wk9_0_0_1_2_2_1)
theorem wk9_0_0_1_2 : wk 9 5 5 3 (aw (aw (aw (aw c0 1 0) 2 0) 3 1) 4 2) = true := wk_c (fun v hv => by
  rcases (by omega : v = 0 ∨ v = 1 ∨ v = 2) with rfl | rfl | rfl
  · exact wk9_0_0_1_2_0
  · exact wk9_0_0_1_2_1
  · exact wk9_0_0_1_2_2)
theorem wk9_0_0_1_3_0_0_0 : wk 9 2 8 4 (aw (aw (aw (aw (aw (aw (aw c0 1 0) 2 0) 3 1) 4 3) 5 0) 6 0) 7 0) = true := by decide +kernel
theorem wk9_0_0_1_3_0_0_1 : wk 9 2 8 5 (aw (aw (aw (aw (aw (aw (aw c0 1 0) 2 0) 3 1) 4 3) 5 0) 6 0) 7 1) = true := by decide +kernel
theorem wk9_0_0_1_3_0_0_2 : wk 9 2 8 6 (aw (aw (aw (aw (aw (aw (aw c0 1 0) 2 0) 3 1) 4 3) 5 0) 6 0) 7 2) = true := by decide +kernel
theorem wk9_0_0_1_3_0_0_3 : wk 9 2 8 7 (aw (aw (aw (aw (aw (aw (aw c0 1 0) 2 0) 3 1) 4 3) 5 0) 6 0) 7 3) = true := by decide +kernel
theorem wk9_0_0_1_3_0_0 : wk 9 3 7 4 (aw (aw (aw (aw (aw (aw c0 1 0) 2 0) 3 1) 4 3) 5 0) 6 0) = true := wk_c (fun v hv => by
  rcases (by omega : v = 0 ∨ v = 1 ∨ v = 2 ∨ v = 3) with rfl | rfl | rfl | rfl
  · exact wk9_0_0_1_3_0_0_0
  · exact wk9_0_0_1_3_0_0_1
  · exact wk9_0_0_1_3_0_0_2
  · exact wk9_0_0_1_3_0_0_3)
theorem wk9_0_0_1_3_0_1_0 : wk 9 2 8 5 (aw (aw (aw (aw (aw (aw (aw c0 1 0) 2 0) 3 1) 4 3) 5 0) 6 1) 7 0) = true := by decide +kernel
theorem wk9_0_0_1_3_0_1_1 : wk 9 2 8 6 (aw (aw (aw (aw (aw (aw (aw c0 1 0) 2 0) 3 1) 4 3) 5 0) 6 1) 7 1) = true := by decide +kernel
theorem wk9_0_0_1_3_0_1_2 : wk 9 2 8 7 (aw (aw (aw (aw (aw (aw (aw c0 1 0) 2 0) 3 1) 4 3) 5 0) 6 1) 7 2) = true := by decide +kernel
theorem wk9_0_0_1_3_0_1 : wk 9 3 7 5 (aw (aw (aw (aw (aw (aw c0 1 0) 2 0) 3 1) 4 3) 5 0) 6 1) = true := wk_c (fun v hv => by
  rcases (by omega : v = 0 ∨ v = 1 ∨ v = 2) with rfl | rfl | rfl
  · exact wk9_0_0_1_3_0_1_0
  · exact wk9_0_0_1_3_0_1_1
  · exact wk9_0_0_1_3_0_1_2)
theorem wk9_0_0_1_3_0_2_0 : wk 9 2 8 6 (aw (aw (aw (aw (aw (aw (aw c0 1 0) 2 0) 3 1) 4 3) 5 0) 6 2) 7 0) = true := by decide +kernel
theorem wk9_0_0_1_3_0_2_1 : wk 9 2 8 7 (aw (aw (aw (aw (aw (aw (aw c0 1 0) 2 0) 3 1) 4 3) 5 0) 6 2) 7 1) = true := by decide +kernel
theorem wk9_0_0_1_3_0_2 : wk 9 3 7 6 (aw (aw (aw (aw (aw (aw c0 1 0) 2 0) 3 1) 4 3) 5 0) 6 2) = true := wk_c (fun v hv => by
  rcases (by omega : v = 0 ∨ v = 1) with rfl | rfl
  · exact wk9_0_0_1_3_0_2_0
  · exact wk9_0_0_1_3_0_2_1)
theorem wk9_0_0_1_3_0 : wk 9 4 6 4 (aw (aw (aw (aw (aw c0 1 0) 2 0) 3 1) 4 3) 5 0) = true := wk_c (fun v hv => by
  rcases (by omega : v = 0 ∨ v = 1 ∨ v = 2) with rfl | rfl | rfl
  · exact wk9_0_0_1_3_0_0
  · exact wk9_0_0_1_3_0_1
  · exact wk9_0_0_1_3_0_2)
theorem wk9_0_0_1_3_1_0_0 : wk 9 2 8 5 (aw (aw (aw (aw (aw (aw (aw c0 1 0) 2 0) 3 1) 4 3) 5 1) 6 0) 7 0) = true := by decide +kernel
theorem wk9_0_0_1_3_1_0_1 : wk 9 2 8 6 (aw (aw (aw (aw (aw (aw (aw c0 1 0) 2 0) 3 1) 4 3) 5 1) 6 0) 7 1) = true := by decide +kernel
theorem wk9_0_0_1_3_1_0_2 : wk 9 2 8 7 (aw (aw (aw (aw (aw (aw (aw c0 1 0) 2 0) 3 1) 4 3) 5 1) 6 0) 7 2) = true := by decide +kernel
theorem wk9_0_0_1_3_1_0 : wk 9 3 7 5 (aw (aw (aw (aw (aw (aw c0 1 0) 2 0) 3 1) 4 3) 5 1) 6 0) = true := wk_c (fun v hv => by
  rcases (by omega : v = 0 ∨ v = 1 ∨ v = 2) with rfl | rfl | rfl
  · exact wk9_0_0_1_3_1_0_0
  · exact wk9_0_0_1_3_1_0_1
  · exact wk9_0_0_1_3_1_0_2)
theorem wk9_0_0_1_3_1_1_0 : wk 9 2 8 6 (aw (aw (aw (aw (aw (aw (aw c0 1 0) 2 0) 3 1) 4 3) 5 1) 6 1) 7 0) = true := by decide +kernel
theorem wk9_0_0_1_3_1_1_1 : wk 9 2 8 7 (aw (aw (aw (aw (aw (aw (aw c0 1 0) 2 0) 3 1) 4 3) 5 1) 6 1) 7 1) = true := by decide +kernel
theorem wk9_0_0_1_3_1_1 : wk 9 3 7 6 (aw (aw (aw (aw (aw (aw c0 1 0) 2 0) 3 1) 4 3) 5 1) 6 1) = true := wk_c (fun v hv => by
  rcases (by omega : v = 0 ∨ v = 1) with rfl | rfl
  · exact wk9_0_0_1_3_1_1_0
  · exact wk9_0_0_1_3_1_1_1)
theorem wk9_0_0_1_3_1 : wk 9 4 6 5 (aw (aw (aw (aw (aw c0 1 0) 2 0) 3 1) 4 3) 5 1) = true := wk_c (fun v hv => by
  rcases (by omega : v = 0 ∨ v = 1) with rfl | rfl
  · exact wk9_0_0_1_3_1_0
  · exact wk9_0_0_1_3_1_1)
theorem wk9_0_0_1_3 : wk 9 5 5 4 (aw (aw (aw (aw c0 1 0) 2 0) 3 1) 4 3) = true := wk_c (fun v hv => by
  rcases (by omega : v = 0 ∨ v = 1) with rfl | rfl
  · exact wk9_0_0_1_3_0
  · exact wk9_0_0_1_3_1)
theorem wk9_0_0_1 : wk 9 6 4 1 (aw (aw (aw c0 1 0) 2 0) 3 1) = true := wk_c (fun v hv => by
  rcases (by omega : v = 0 ∨ v = 1 ∨ v = 2 ∨ v = 3) with rfl | rfl | rfl | rfl
  · exact wk9_0_0_1_0
  · exact wk9_0_0_1_1
  · exact wk9_0_0_1_2
  · exact wk9_0_0_1_3)
theorem wk9_0_0_2_0_0_0_0 : wk 9 2 8 2 (aw (aw (aw (aw (aw (aw (aw c0 1 0) 2 0) 3 2) 4 0) 5 0) 6 0) 7 0) = true := by decide +kernel
theorem wk9_0_0_2_0_0_0_1 : wk 9 2 8 3 (aw (aw (aw (aw (aw (aw (aw c0 1 0) 2 0) 3 2) 4 0) 5 0) 6 0) 7 1) = true := by decide +kernel
theorem wk9_0_0_2_0_0_0_2 : wk 9 2 8 4 (aw (aw (aw (aw (aw (aw (aw c0 1 0) 2 0) 3 2) 4 0) 5 0) 6 0) 7 2) = true := by decide +kernel
theorem wk9_0_0_2_0_0_0_3 : wk 9 2 8 5 (aw (aw (aw (aw (aw (aw (aw c0 1 0) 2 0) 3 2) 4 0) 5 0) 6 0) 7 3) = true := by decide +kernel
theorem wk9_0_0_2_0_0_0_4 : wk 9 2 8 6 (aw (aw (aw (aw (aw (aw (aw c0 1 0) 2 0) 3 2) 4 0) 5 0) 6 0) 7 4) = true := by decide +kernel
theorem wk9_0_0_2_0_0_0_5 : wk 9 2 8 7 (aw (aw (aw (aw (aw (aw (aw c0 1 0) 2 0) 3 2) 4 0) 5 0) 6 0) 7 5) = true := by decide +kernel
theorem wk9_0_0_2_0_0_0 : wk 9 3 7 2 (aw (aw (aw (aw (aw (aw c0 1 0) 2 0) 3 2) 4 0) 5 0) 6 0) = true := wk_c (fun v hv => by
  rcases (by omega : v = 0 ∨ v = 1 ∨ v = 2 ∨ v = 3 ∨ v = 4 ∨ v = 5) with rfl | rfl | rfl | rfl | rfl | rfl
  · exact wk9_0_0_2_0_0_0_0
  · exact wk9_0_0_2_0_0_0_1
  · exact wk9_0_0_2_0_0_0_2
  · exact wk9_0_0_2_0_0_0_3
  · exact wk9_0_0_2_0_0_0_4
  · exact wk9_0_0_2_0_0_0_5)
theorem wk9_0_0_2_0_0_1_0 : wk 9 2 8 3 (aw (aw (aw (aw (aw (aw (aw c0 1 0) 2 0) 3 2) 4 0) 5 0) 6 1) 7 0) = true := by decide +kernel
theorem wk9_0_0_2_0_0_1_1 : wk 9 2 8 4 (aw (aw (aw (aw (aw (aw (aw c0 1 0) 2 0) 3 2) 4 0) 5 0) 6 1) 7 1) = true := by decide +kernel
theorem wk9_0_0_2_0_0_1_2 : wk 9 2 8 5 (aw (aw (aw (aw (aw (aw (aw c0 1 0) 2 0) 3 2) 4 0) 5 0) 6 1) 7 2) = true := by decide +kernel
theorem wk9_0_0_2_0_0_1_3 : wk 9 2 8 6 (aw (aw (aw (aw (aw (aw (aw c0 1 0) 2 0) 3 2) 4 0) 5 0) 6 1) 7 3) = true := by decide +kernel
theorem wk9_0_0_2_0_0_1_4 : wk 9 2 8 7 (aw (aw (aw (aw (aw (aw (aw c0 1 0) 2 0) 3 2) 4 0) 5 0) 6 1) 7 4) = true := by decide +kernel
theorem wk9_0_0_2_0_0_1 : wk 9 3 7 3 (aw (aw (aw (aw (aw (aw c0 1 0) 2 0) 3 2) 4 0) 5 0) 6 1) = true := wk_c (fun v hv => by
  rcases (by omega : v = 0 ∨ v = 1 ∨ v = 2 ∨ v = 3 ∨ v = 4) with rfl | rfl | rfl | rfl | rfl
  · exact wk9_0_0_2_0_0_1_0
  · exact wk9_0_0_2_0_0_1_1
  · exact wk9_0_0_2_0_0_1_2
  · exact wk9_0_0_2_0_0_1_3
  · exact wk9_0_0_2_0_0_1_4)
theorem wk9_0_0_2_0_0_2_0 : wk 9 2 8 4 (aw (aw (aw (aw (aw (aw (aw c0 1 0) 2 0) 3 2) 4 0) 5 0) 6 2) 7 0) = true := by decide +kernel
theorem wk9_0_0_2_0_0_2_1 : wk 9 2 8 5 (aw (aw (aw (aw (aw (aw (aw c0 1 0) 2 0) 3 2) 4 0) 5 0) 6 2) 7 1) = true := by decide +kernel
theorem wk9_0_0_2_0_0_2_2 : wk 9 2 8 6 (aw (aw (aw (aw (aw (aw (aw c0 1 0) 2 0) 3 2) 4 0) 5 0) 6 2) 7 2) = true := by decide +kernel
theorem wk9_0_0_2_0_0_2_3 : wk 9 2 8 7 (aw (aw (aw (aw (aw (aw (aw c0 1 0) 2 0) 3 2) 4 0) 5 0) 6 2) 7 3) = true := by decide +kernel
theorem wk9_0_0_2_0_0_2 : wk 9 3 7 4 (aw (aw (aw (aw (aw (aw c0 1 0) 2 0) 3 2) 4 0) 5 0) 6 2) = true := wk_c (fun v hv => by
  rcases (by omega : v = 0 ∨ v = 1 ∨ v = 2 ∨ v = 3) with rfl | rfl | rfl | rfl
  · exact wk9_0_0_2_0_0_2_0
  · exact wk9_0_0_2_0_0_2_1
  · exact wk9_0_0_2_0_0_2_2
  · exact wk9_0_0_2_0_0_2_3)
theorem wk9_0_0_2_0_0_3_0 : wk 9 2 8 5 (aw (aw (aw (aw (aw (aw (aw c0 1 0) 2 0) 3 2) 4 0) 5 0) 6 3) 7 0) = true := by decide +kernel
theorem wk9_0_0_2_0_0_3_1 : wk 9 2 8 6 (aw (aw (aw (aw (aw (aw (aw c0 1 0) 2 0) 3 2) 4 0) 5 0) 6 3) 7 1) = true := by decide +kernel
theorem wk9_0_0_2_0_0_3_2 : wk 9 2 8 7 (aw (aw (aw (aw (aw (aw (aw c0 1 0) 2 0) 3 2) 4 0) 5 0) 6 3) 7 2) = true := by decide +kernel
theorem wk9_0_0_2_0_0_3 : wk 9 3 7 5 (aw (aw (aw (aw (aw (aw c0 1 0) 2 0) 3 2) 4 0) 5 0) 6 3) = true := wk_c (fun v hv => by
  rcases (by omega : v = 0 ∨ v = 1 ∨ v = 2) with rfl | rfl | rfl
  · exact wk9_0_0_2_0_0_3_0
  · exact wk9_0_0_2_0_0_3_1
  · exact wk9_0_0_2_0_0_3_2)
theorem wk9_0_0_2_0_0_4_0 : wk 9 2 8 6 (aw (aw (aw (aw (aw (aw (aw c0 1 0) 2 0) 3 2) 4 0) 5 0) 6 4) 7 0) = true := by decide +kernel
theorem wk9_0_0_2_0_0_4_1 : wk 9 2 8 7 (aw (aw (aw (aw (aw (aw (aw c0 1 0) 2 0) 3 2) 4 0) 5 0) 6 4) 7 1) = true := by decide +kernel
theorem wk9_0_0_2_0_0_4 : wk 9 3 7 6 (aw (aw (aw (aw (aw (aw c0 1 0) 2 0) 3 2) 4 0) 5 0) 6 4) = true := wk_c (fun v hv => by
  rcases (by omega : v = 0 ∨ v = 1) with rfl | rfl
  · exact wk9_0_0_2_0_0_4_0
  · exact wk9_0_0_2_0_0_4_1)
theorem wk9_0_0_2_0_0 : wk 9 4 6 2 (aw (aw (aw (aw (aw c0 1 0) 2 0) 3 2) 4 0) 5 0) = true := wk_c (fun v hv => by
  rcases (by omega : v = 0 ∨ v = 1 ∨ v = 2 ∨ v = 3 ∨ v = 4) with rfl | rfl | rfl | rfl | rfl
  · exact wk9_0_0_2_0_0_0
  · exact wk9_0_0_2_0_0_1
  · exact wk9_0_0_2_0_0_2
  · exact wk9_0_0_2_0_0_3
  · exact wk9_0_0_2_0_0_4)
theorem wk9_0_0_2_0_1_0_0 : wk 9 2 8 3 (aw (aw (aw (aw (aw (aw (aw c0 1 0) 2 0) 3 2) 4 0) 5 1) 6 0) 7 0) = true := by decide +kernel
theorem wk9_0_0_2_0_1_0_1 : wk 9 2 8 4 (aw (aw (aw (aw (aw (aw (aw c0 1 0) 2 0) 3 2) 4 0) 5 1) 6 0) 7 1) = true := by decide +kernel
theorem wk9_0_0_2_0_1_0_2 : wk 9 2 8 5 (aw (aw (aw (aw (aw (aw (aw c0 1 0) 2 0) 3 2) 4 0) 5 1) 6 0) 7 2) = true := by decide +kernel
theorem wk9_0_0_2_0_1_0_3 : wk 9 2 8 6 (aw (aw (aw (aw (aw (aw (aw c0 1 0) 2 0) 3 2) 4 0) 5 1) 6 0) 7 3) = true := by decide +kernel
theorem wk9_0_0_2_0_1_0_4 : wk 9 2 8 7 (aw (aw (aw (aw (aw (aw (aw c0 1 0) 2 0) 3 2) 4 0) 5 1) 6 0) 7 4) = true := by decide +kernel
theorem wk9_0_0_2_0_1_0 : wk 9 3 7 3 (aw (aw (aw (aw (aw (aw c0 1 0) 2 0) 3 2) 4 0) 5 1) 6 0) = true := wk_c (fun v hv => by
  rcases (by omega : v = 0 ∨ v = 1 ∨ v = 2 ∨ v = 3 ∨ v = 4) with rfl | rfl | rfl | rfl | rfl
  · exact wk9_0_0_2_0_1_0_0
  · exact wk9_0_0_2_0_1_0_1
  · exact wk9_0_0_2_0_1_0_2
  · exact wk9_0_0_2_0_1_0_3
  · exact wk9_0_0_2_0_1_0_4)
theorem wk9_0_0_2_0_1_1_0 : wk 9 2 8 4 (aw (aw (aw (aw (aw (aw (aw c0 1 0) 2 0) 3 2) 4 0) 5 1) 6 1) 7 0) = true := by decide +kernel
theorem wk9_0_0_2_0_1_1_1 : wk 9 2 8 5 (aw (aw (aw (aw (aw (aw (aw c0 1 0) 2 0) 3 2) 4 0) 5 1) 6 1) 7 1) = true := by decide +kernel
theorem wk9_0_0_2_0_1_1_2 : wk 9 2 8 6 (aw (aw (aw (aw (aw (aw (aw c0 1 0) 2 0) 3 2) 4 0) 5 1) 6 1) 7 2) = true := by decide +kernel
theorem wk9_0_0_2_0_1_1_3 : wk 9 2 8 7 (aw (aw (aw (aw (aw (aw (aw c0 1 0) 2 0) 3 2) 4 0) 5 1) 6 1) 7 3) = true := by decide +kernel
theorem wk9_0_0_2_0_1_1 : wk 9 3 7 4 (aw (aw (aw (aw (aw (aw c0 1 0) 2 0) 3 2) 4 0) 5 1) 6 1) = true := wk_c (fun v hv => by
  rcases (by omega : v = 0 ∨ v = 1 ∨ v = 2 ∨ v = 3) with rfl | rfl | rfl | rfl
  · exact wk9_0_0_2_0_1_1_0
  · exact wk9_0_0_2_0_1_1_1
  · exact wk9_0_0_2_0_1_1_2
  · exact wk9_0_0_2_0_1_1_3)
theorem wk9_0_0_2_0_1_2_0 : wk 9 2 8 5 (aw (aw (aw (aw (aw (aw (aw c0 1 0) 2 0) 3 2) 4 0) 5 1) 6 2) 7 0) = true := by decide +kernel
theorem wk9_0_0_2_0_1_2_1 : wk 9 2 8 6 (aw (aw (aw (aw (aw (aw (aw c0 1 0) 2 0) 3 2) 4 0) 5 1) 6 2) 7 1) = true := by decide +kernel
theorem wk9_0_0_2_0_1_2_2 : wk 9 2 8 7 (aw (aw (aw (aw (aw (aw (aw c0 1 0) 2 0) 3 2) 4 0) 5 1) 6 2) 7 2) = true := by decide +kernel
theorem wk9_0_0_2_0_1_2 : wk 9 3 7 5 (aw (aw (aw (aw (aw (aw c0 1 0) 2 0) 3 2) 4 0) 5 1) 6 2) = true := wk_c (fun v hv => by
  rcases (by omega : v = 0 ∨ v = 1 ∨ v = 2) with rfl | rfl | rfl
  · exact wk9_0_0_2_0_1_2_0
  · exact wk9_0_0_2_0_1_2_1
  · exact wk9_0_0_2_0_1_2_2)
theorem wk9_0_0_2_0_1_3_0 : wk 9 2 8 6 (aw (aw (aw (aw (aw (aw (aw c0 1 0) 2 0) 3 2) 4 0) 5 1) 6 3) 7 0) = true := by decide +kernel
theorem wk9_0_0_2_0_1_3_1 : wk 9 2 8 7 (aw (aw (aw (aw (aw (aw (aw c0 1 0) 2 0) 3 2) 4 0) 5 1) 6 3) 7 1) = true := by decide +kernel
theorem wk9_0_0_2_0_1_3 : wk 9 3 7 6 (aw (aw (aw (aw (aw (aw c0 1 0) 2 0) 3 2) 4 0) 5 1) 6 3) = true := wk_c (fun v hv => by
  rcases (by omega : v = 0 ∨ v = 1) with rfl | rfl
  · exact wk9_0_0_2_0_1_3_0
  · exact wk9_0_0_2_0_1_3_1)
theorem wk9_0_0_2_0_1 : wk 9 4 6 3 (aw (aw (aw (aw (aw c0 1 0) 2 0) 3 2) 4 0) 5 1) = true := wk_c (fun v hv => by
  rcases (by omega : v = 0 ∨ v = 1 ∨ v = 2 ∨ v = 3) with rfl | rfl | rfl | rfl
  · exact wk9_0_0_2_0_1_0
  · exact wk9_0_0_2_0_1_1
  · exact wk9_0_0_2_0_1_2
  · exact wk9_0_0_2_0_1_3)
theorem wk9_0_0_2_0_2_0_0 : wk 9 2 8 4 (aw (aw (aw (aw (aw (aw (aw c0 1 0) 2 0) 3 2) 4 0) 5 2) 6 0) 7 0) = true := by decide +kernel
theorem wk9_0_0_2_0_2_0_1 : wk 9 2 8 5 (aw (aw (aw (aw (aw (aw (aw c0 1 0) 2 0) 3 2) 4 0) 5 2) 6 0) 7 1) = true := by decide +kernel
theorem wk9_0_0_2_0_2_0_2 : wk 9 2 8 6 (aw (aw (aw (aw (aw (aw (aw c0 1 0) 2 0) 3 2) 4 0) 5 2) 6 0) 7 2) = true := by decide +kernel
theorem wk9_0_0_2_0_2_0_3 : wk 9 2 8 7 (aw (aw (aw (aw (aw (aw (aw c0 1 0) 2 0) 3 2) 4 0) 5 2) 6 0) 7 3) = true := by decide +kernel
theorem wk9_0_0_2_0_2_0 : wk 9 3 7 4 (aw (aw (aw (aw (aw (aw c0 1 0) 2 0) 3 2) 4 0) 5 2) 6 0) = true := wk_c (fun v hv => by
  rcases (by omega : v = 0 ∨ v = 1 ∨ v = 2 ∨ v = 3) with rfl | rfl | rfl | rfl
  · exact wk9_0_0_2_0_2_0_0
  · exact wk9_0_0_2_0_2_0_1
  · exact wk9_0_0_2_0_2_0_2
  · exact wk9_0_0_2_0_2_0_3)
theorem wk9_0_0_2_0_2_1_0 : wk 9 2 8 5 (aw (aw (aw (aw (aw (aw (aw c0 1 0) 2 0) 3 2) 4 0) 5 2) 6 1) 7 0) = true := by decide +kernel
theorem wk9_0_0_2_0_2_1_1 : wk 9 2 8 6 (aw (aw (aw (aw (aw (aw (aw c0 1 0) 2 0) 3 2) 4 0) 5 2) 6 1) 7 1) = true := by decide +kernel
theorem wk9_0_0_2_0_2_1_2 : wk 9 2 8 7 (aw (aw (aw (aw (aw (aw (aw c0 1 0) 2 0) 3 2) 4 0) 5 2) 6 1) 7 2) = true := by decide +kernel
theorem wk9_0_0_2_0_2_1 : wk 9 3 7 5 (aw (aw (aw (aw (aw (aw c0 1 0) 2 0) 3 2) 4 0) 5 2) 6 1) = true := wk_c (fun v hv => by
  rcases (by omega : v = 0 ∨ v = 1 ∨ v = 2) with rfl | rfl | rfl
  · exact wk9_0_0_2_0_2_1_0
  · exact wk9_0_0_2_0_2_1_1
  · exact wk9_0_0_2_0_2_1_2)
theorem wk9_0_0_2_0_2_2_0 : wk 9 2 8 6 (aw (aw (aw (aw (aw (aw (aw c0 1 0) 2 0) 3 2) 4 0) 5 2) 6 2) 7 0) = true := by decide +kernel
theorem wk9_0_0_2_0_2_2_1 : wk 9 2 8 7 (aw (aw (aw (aw (aw (aw (aw c0 1 0) 2 0) 3 2) 4 0) 5 2) 6 2) 7 1) = true := by decide +kernel
theorem wk9_0_0_2_0_2_2 : wk 9 3 7 6 (aw (aw (aw (aw (aw (aw c0 1 0) 2 0) 3 2) 4 0) 5 2) 6 2) = true := wk_c (fun v hv => by
  rcases (by omega : v = 0 ∨ v = 1) with rfl | rfl
  · exact wk9_0_0_2_0_2_2_0
  · exact wk9_0_0_2_0_2_2_1)
theorem wk9_0_0_2_0_2 : wk 9 4 6 4 (aw (aw (aw (aw (aw c0 1 0) 2 0) 3 2) 4 0) 5 2) = true := wk_c (fun v hv => by
  rcases (by omega : v = 0 ∨ v = 1 ∨ v = 2) with rfl | rfl | rfl
  · exact wk9_0_0_2_0_2_0
  · exact wk9_0_0_2_0_2_1
  · exact wk9_0_0_2_0_2_2)
theorem wk9_0_0_2_0_3_0_0 : wk 9 2 8 5 (aw (aw (aw (aw (aw (aw (aw c0 1 0) 2 0) 3 2) 4 0) 5 3) 6 0) 7 0) = true := by decide +kernel
theorem wk9_0_0_2_0_3_0_1 : wk 9 2 8 6 (aw (aw (aw (aw (aw (aw (aw c0 1 0) 2 0) 3 2) 4 0) 5 3) 6 0) 7 1) = true := by decide +kernel
theorem wk9_0_0_2_0_3_0_2 : wk 9 2 8 7 (aw (aw (aw (aw (aw (aw (aw c0 1 0) 2 0) 3 2) 4 0) 5 3) 6 0) 7 2) = true := by decide +kernel
theorem wk9_0_0_2_0_3_0 : wk 9 3 7 5 (aw (aw (aw (aw (aw (aw c0 1 0) 2 0) 3 2) 4 0) 5 3) 6 0) = true := wk_c (fun v hv => by
  rcases (by omega : v = 0 ∨ v = 1 ∨ v = 2) with rfl | rfl | rfl
  · exact wk9_0_0_2_0_3_0_0
  · exact wk9_0_0_2_0_3_0_1
  · exact wk9_0_0_2_0_3_0_2)
theorem wk9_0_0_2_0_3_1_0 : wk 9 2 8 6 (aw (aw (aw (aw (aw (aw (aw c0 1 0) 2 0) 3 2) 4 0) 5 3) 6 1) 7 0) = true := by decide +kernel
theorem wk9_0_0_2_0_3_1_1 : wk 9 2 8 7 (aw (aw (aw (aw (aw (aw (aw c0 1 0) 2 0) 3 2) 4 0) 5 3) 6 1) 7 1) = true := by decide +kernel
theorem wk9_0_0_2_0_3_1 : wk 9 3 7 6 (aw (aw (aw (aw (aw (aw c0 1 0) 2 0) 3 2) 4 0) 5 3) 6 1) = true := wk_c (fun v hv => by
  rcases (by omega : v = 0 ∨ v = 1) with rfl | rfl
  · exact wk9_0_0_2_0_3_1_0
  · exact wk9_0_0_2_0_3_1_1)
theorem wk9_0_0_2_0_3 : wk 9 4 6 5 (aw (aw (aw (aw (aw c0 1 0) 2 0) 3 2) 4 0) 5 3) = true := wk_c (fun v hv => by
  rcases (by omega : v = 0 ∨ v = 1) with rfl | rfl
  · exact wk9_0_0_2_0_3_0
  · exact wk9_0_0_2_0_3_1)
theorem wk9_0_0_2_0 : wk 9 5 5 2 (aw (aw (aw (aw c0 1 0) 2 0) 3 2) 4 0) = true := wk_c (fun v hv => by
  rcases (by omega : v = 0 ∨ v = 1 ∨ v = 2 ∨ v = 3) with rfl | rfl | rfl | rfl
  · exact wk9_0_0_2_0_0
  · exact wk9_0_0_2_0_1
  · exact wk9_0_0_2_0_2
  · exact wk9_0_0_2_0_3)
theorem wk9_0_0_2_1_0_0_0 : wk 9 2 8 3 (aw (aw (aw (aw (aw (aw (aw c0 1 0) 2 0) 3 2) 4 1) 5 0) 6 0) 7 0) = true := by decide +kernel
theorem wk9_0_0_2_1_0_0_1 : wk 9 2 8 4 (aw (aw (aw (aw (aw (aw (aw c0 1 0) 2 0) 3 2) 4 1) 5 0) 6 0) 7 1) = true := by decide +kernel
theorem wk9_0_0_2_1_0_0_2 : wk 9 2 8 5 (aw (aw (aw (aw (aw (aw (aw c0 1 0) 2 0) 3 2) 4 1) 5 0) 6 0) 7 2) = true := by decide +kernel
theorem wk9_0_0_2_1_0_0_3 : wk 9 2 8 6 (aw (aw (aw (aw (aw (aw (aw c0 1 0) 2 0) 3 2) 4 1) 5 0) 6 0) 7 3) = true := by decide +kernel
theorem wk9_0_0_2_1_0_0_4 : wk 9 2 8 7 (aw (aw (aw (aw (aw (aw (aw c0 1 0) 2 0) 3 2) 4 1) 5 0) 6 0) 7 4) = true := by decide +kernel
theorem wk9_0_0_2_1_0_0 : wk 9 3 7 3 (aw (aw (aw (aw (aw (aw c0 1 0) 2 0) 3 2) 4 1) 5 0) 6 0) = true := wk_c (fun v hv => by
  rcases (by omega : v = 0 ∨ v = 1 ∨ v = 2 ∨ v = 3 ∨ v = 4) with rfl | rfl | rfl | rfl | rfl
  · exact wk9_0_0_2_1_0_0_0
  · exact wk9_0_0_2_1_0_0_1
  · exact wk9_0_0_2_1_0_0_2
  · exact wk9_0_0_2_1_0_0_3
  · exact wk9_0_0_2_1_0_0_4)
theorem wk9_0_0_2_1_0_1_0 : wk 9 2 8 4 (aw (aw (aw (aw (aw (aw (aw c0 1 0) 2 0) 3 2) 4 1) 5 0) 6 1) 7 0) = true := by decide +kernel
theorem wk9_0_0_2_1_0_1_1 : wk 9 2 8 5 (aw (aw (aw (aw (aw (aw (aw c0 1 0) 2 0) 3 2) 4 1) 5 0) 6 1) 7 1) = true := by decide +kernel
theorem wk9_0_0_2_1_0_1_2 : wk 9 2 8 6 (aw (aw (aw (aw (aw (aw (aw c0 1 0) 2 0) 3 2) 4 1) 5 0) 6 1) 7 2) = true := by decide +kernel
theorem wk9_0_0_2_1_0_1_3 : wk 9 2 8 7 (aw (aw (aw (aw (aw (aw (aw c0 1 0) 2 0) 3 2) 4 1) 5 0) 6 1) 7 3) = true := by decide +kernel
theorem wk9_0_0_2_1_0_1 : wk 9 3 7 4 (aw (aw (aw (aw (aw (aw c0 1 0) 2 0) 3 2) 4 1) 5 0) 6 1) = true := wk_c (fun v hv => by
  rcases (by omega : v = 0 ∨ v = 1 ∨ v = 2 ∨ v = 3) with rfl | rfl | rfl | rfl
  · exact wk9_0_0_2_1_0_1_0
  · exact wk9_0_0_2_1_0_1_1
  · exact wk9_0_0_2_1_0_1_2
  · exact wk9_0_0_2_1_0_1_3)
theorem wk9_0_0_2_1_0_2_0 : wk 9 2 8 5 (aw (aw (aw (aw (aw (aw (aw c0 1 0) 2 0) 3 2) 4 1) 5 0) 6 2) 7 0) = true := by decide +kernel
theorem wk9_0_0_2_1_0_2_1 : wk 9 2 8 6 (aw (aw (aw (aw (aw (aw (aw c0 1 0) 2 0) 3 2) 4 1) 5 0) 6 2) 7 1) = true := by decide +kernel
theorem wk9_0_0_2_1_0_2_2 : wk 9 2 8 7 (aw (aw (aw (aw (aw (aw (aw c0 1 0) 2 0) 3 2) 4 1) 5 0) 6 2) 7 2) = true := by decide +kernel
theorem wk9_0_0_2_1_0_2 : wk 9 3 7 5 (aw (aw (aw (aw (aw (aw c0 1 0) 2 0) 3 2) 4 1) 5 0) 6 2) = true := wk_c (fun v hv => by
  rcases (by omega : v = 0 ∨ v = 1 ∨ v = 2) with rfl | rfl | rfl
  · exact wk9_0_0_2_1_0_2_0
  · exact wk9_0_0_2_1_0_2_1
  · exact wk9_0_0_2_1_0_2_2)
theorem wk9_0_0_2_1_0_3_0 : wk 9 2 8 6 (aw (aw (aw (aw (aw (aw (aw c0 1 0) 2 0) 3 2) 4 1) 5 0) 6 3) 7 0) = true := by decide +kernel
theorem wk9_0_0_2_1_0_3_1 : wk 9 2 8 7 (aw (aw (aw (aw (aw (aw (aw c0 1 0) 2 0) 3 2) 4 1) 5 0) 6 3) 7 1) = true := by decide +kernel
theorem wk9_0_0_2_1_0_3 : wk 9 3 7 6 (aw (aw (aw (aw (aw (aw c0 1 0) 2 0) 3 2) 4 1) 5 0) 6 3) = true := wk_c (fun v hv => by
  rcases (by omega : v = 0 ∨ v = 1) with rfl | rfl
  · exact wk9_0_0_2_1_0_3_0
  · exact wk9_0_0_2_1_0_3_1)
theorem wk9_0_0_2_1_0 : wk 9 4 6 3 (aw (aw (aw (aw (aw c0 1 0) 2 0) 3 2) 4 1) 5 0) = true := wk_c (fun v hv => by
  rcases (by omega : v = 0 ∨ v = 1 ∨ v = 2 ∨ v = 3) with rfl | rfl | rfl | rfl
  · exact wk9_0_0_2_1_0_0
  · exact wk9_0_0_2_1_0_1
  · exact wk9_0_0_2_1_0_2
  · exact wk9_0_0_2_1_0_3)
theorem wk9_0_0_2_1_1_0_0 : wk 9 2 8 4 (aw (aw (aw (aw (aw (aw (aw c0 1 0) 2 0) 3 2) 4 1) 5 1) 6 0) 7 0) = true := by decide +kernel
theorem wk9_0_0_2_1_1_0_1 : wk 9 2 8 5 (aw (aw (aw (aw (aw (aw (aw c0 1 0) 2 0) 3 2) 4 1) 5 1) 6 0) 7 1) = true := by decide +kernel
theorem wk9_0_0_2_1_1_0_2 : wk 9 2 8 6 (aw (aw (aw (aw (aw (aw (aw c0 1 0) 2 0) 3 2) 4 1) 5 1) 6 0) 7 2) = true := by decide +kernel
theorem wk9_0_0_2_1_1_0_3 : wk 9 2 8 7 (aw (aw (aw (aw (aw (aw (aw c0 1 0) 2 0) 3 2) 4 1) 5 1) 6 0) 7 3) = true := by decide +kernel
theorem wk9_0_0_2_1_1_0 : wk 9 3 7 4 (aw (aw (aw (aw (aw (aw c0 1 0) 2 0) 3 2) 4 1) 5 1) 6 0) = true := wk_c (fun v hv => by
  rcases (by omega : v = 0 ∨ v = 1 ∨ v = 2 ∨ v = 3) with rfl | rfl | rfl | rfl
  · exact wk9_0_0_2_1_1_0_0
  · exact wk9_0_0_2_1_1_0_1
  · exact wk9_0_0_2_1_1_0_2
  · exact wk9_0_0_2_1_1_0_3)
theorem wk9_0_0_2_1_1_1_0 : wk 9 2 8 5 (aw (aw (aw (aw (aw (aw (aw c0 1 0) 2 0) 3 2) 4 1) 5 1) 6 1) 7 0) = true := by decide +kernel
theorem wk9_0_0_2_1_1_1_1 : wk 9 2 8 6 (aw (aw (aw (aw (aw (aw (aw c0 1 0) 2 0) 3 2) 4 1) 5 1) 6 1) 7 1) = true := by decide +kernel
theorem wk9_0_0_2_1_1_1_2 : wk 9 2 8 7 (aw (aw (aw (aw (aw (aw (aw c0 1 0) 2 0) 3 2) 4 1) 5 1) 6 1) 7 2) = true := by decide +kernel
theorem wk9_0_0_2_1_1_1 : wk 9 3 7 5 (aw (aw (aw (aw (aw (aw c0 1 0) 2 0) 3 2) 4 1) 5 1) 6 1) = true := wk_c (fun v hv => by
  rcases (by omega : v = 0 ∨ v = 1 ∨ v = 2) with rfl | rfl | rfl
  · exact wk9_0_0_2_1_1_1_0
  · exact wk9_0_0_2_1_1_1_1
  · exact wk9_0_0_2_1_1_1_2)
theorem wk9_0_0_2_1_1_2_0 : wk 9 2 8 6 (aw (aw (aw (aw (aw (aw (aw c0 1 0) 2 0) 3 2) 4 1) 5 1) 6 2) 7 0) = true := by decide +kernel
theorem wk9_0_0_2_1_1_2_1 : wk 9 2 8 7 (aw (aw (aw (aw (aw (aw (aw c0 1 0) 2 0) 3 2) 4 1) 5 1) 6 2) 7 1) = true := by decide +kernel
theorem wk9_0_0_2_1_1_2 : wk 9 3 7 6 (aw (aw (aw (aw (aw (aw c0 1 0) 2 0) 3 2) 4 1) 5 1) 6 2) = true := wk_c (fun v hv => by
  rcases (by omega : v = 0 ∨ v = 1) with rfl | rfl
  · exact wk9_0_0_2_1_1_2_0
  · exact wk9_0_0_2_1_1_2_1)
theorem wk9_0_0_2_1_1 : wk 9 4 6 4 (aw (aw (aw (aw (aw c0 1 0) 2 0) 3 2) 4 1) 5 1) = true := wk_c (fun v hv => by
  rcases (by omega : v = 0 ∨ v = 1 ∨ v = 2) with rfl | rfl | rfl
  · exact wk9_0_0_2_1_1_0
  · exact wk9_0_0_2_1_1_1
  · exact wk9_0_0_2_1_1_2)
theorem wk9_0_0_2_1_2_0_0 : wk 9 2 8 5 (aw (aw (aw (aw (aw (aw (aw c0 1 0) 2 0) 3 2) 4 1) 5 2) 6 0) 7 0) = true := by decide +kernel
theorem wk9_0_0_2_1_2_0_1 : wk 9 2 8 6 (aw (aw (aw (aw (aw (aw (aw c0 1 0) 2 0) 3 2) 4 1) 5 2) 6 0) 7 1) = true := by decide +kernel
theorem wk9_0_0_2_1_2_0_2 : wk 9 2 8 7 (aw (aw (aw (aw (aw (aw (aw c0 1 0) 2 0) 3 2) 4 1) 5 2) 6 0) 7 2) = true := by decide +kernel
theorem wk9_0_0_2_1_2_0 : wk 9 3 7 5 (aw (aw (aw (aw (aw (aw c0 1 0) 2 0) 3 2) 4 1) 5 2) 6 0) = true := wk_c (fun v hv => by
  rcases (by omega : v = 0 ∨ v = 1 ∨ v = 2) with rfl | rfl | rfl
  · exact wk9_0_0_2_1_2_0_0
  · exact wk9_0_0_2_1_2_0_1
  · exact wk9_0_0_2_1_2_0_2)
theorem wk9_0_0_2_1_2_1_0 : wk 9 2 8 6 (aw (aw (aw (aw (aw (aw (aw c0 1 0) 2 0) 3 2) 4 1) 5 2) 6 1) 7 0) = true := by decide +kernel
theorem wk9_0_0_2_1_2_1_1 : wk 9 2 8 7 (aw (aw (aw (aw (aw (aw (aw c0 1 0) 2 0) 3 2) 4 1) 5 2) 6 1) 7 1) = true := by decide +kernel
theorem wk9_0_0_2_1_2_1 : wk 9 3 7 6 (aw (aw (aw (aw (aw (aw c0 1 0) 2 0) 3 2) 4 1) 5 2) 6 1) = true := wk_c (fun v hv => by
  rcases (by omega : v = 0 ∨ v = 1) with rfl | rfl
  · exact wk9_0_0_2_1_2_1_0
  · exact wk9_0_0_2_1_2_1_1)
theorem wk9_0_0_2_1_2 : wk 9 4 6 5 (aw (aw (aw (aw (aw c0 1 0) 2 0) 3 2) 4 1) 5 2) = true := wk_c (fun v hv => by
  rcases (by omega : v = 0 ∨ v = 1) with rfl | rfl
  · exact wk9_0_0_2_1_2_0
  · exact wk9_0_0_2_1_2_1)
theorem wk9_0_0_2_1 : wk 9 5 5 3 (aw (aw (aw (aw c0 1 0) 2 0) 3 2) 4 1) = true := wk_c (fun v hv => by
  rcases (by omega : v = 0 ∨ v = 1 ∨ v = 2) with rfl | rfl | rfl
  · exact wk9_0_0_2_1_0
  · exact wk9_0_0_2_1_1
  · exact wk9_0_0_2_1_2)
theorem wk9_0_0_2_2_0_0_0 : wk 9 2 8 4 (aw (aw (aw (aw (aw (aw (aw c0 1 0) 2 0) 3 2) 4 2) 5 0) 6 0) 7 0) = true := by decide +kernel
theorem wk9_0_0_2_2_0_0_1 : wk 9 2 8 5 (aw (aw (aw (aw (aw (aw (aw c0 1 0) 2 0) 3 2) 4 2) 5 0) 6 0) 7 1) = true := by decide +kernel
theorem wk9_0_0_2_2_0_0_2 : wk 9 2 8 6 (aw (aw (aw (aw (aw (aw (aw c0 1 0) 2 0) 3 2) 4 2) 5 0) 6 0) 7 2) = true := by decide +kernel
theorem wk9_0_0_2_2_0_0_3 : wk 9 2 8 7 (aw (aw (aw (aw (aw (aw (aw c0 1 0) 2 0) 3 2) 4 2) 5 0) 6 0) 7 3) = true := by decide +kernel
theorem wk9_0_0_2_2_0_0 : wk 9 3 7 4 (aw (aw (aw (aw (aw (aw c0 1 0) 2 0) 3 2) 4 2) 5 0) 6 0) = true := wk_c (fun v hv => by
  rcases (by omega : v = 0 ∨ v = 1 ∨ v = 2 ∨ v = 3) with rfl | rfl | rfl | rfl
  · exact wk9_0_0_2_2_0_0_0
  · exact wk9_0_0_2_2_0_0_1
  · exact wk9_0_0_2_2_0_0_2
  · exact wk9_0_0_2_2_0_0_3)
theorem wk9_0_0_2_2_0_1_0 : wk 9 2 8 5 (aw (aw (aw (aw (aw (aw (aw c0 1 0) 2 0) 3 2) 4 2) 5 0) 6 1) 7 0) = true := by decide +kernel
theorem wk9_0_0_2_2_0_1_1 : wk 9 2 8 6 (aw (aw (aw (aw (aw (aw (aw c0 1 0) 2 0) 3 2) 4 2) 5 0) 6 1) 7 1) = true := by decide +kernel
theorem wk9_0_0_2_2_0_1_2 : wk 9 2 8 7 (aw (aw (aw (aw (aw (aw (aw c0 1 0) 2 0) 3 2) 4 2) 5 0) 6 1) 7 2) = true := by decide +kernel
theorem wk9_0_0_2_2_0_1 : wk 9 3 7 5 (aw (aw (aw (aw (aw (aw c0 1 0) 2 0) 3 2) 4 2) 5 0) 6 1) = true := wk_c (fun v hv => by
  rcases (by omega : v = 0 ∨ v = 1 ∨ v = 2) with rfl | rfl | rfl
  · exact wk9_0_0_2_2_0_1_0
  · exact wk9_0_0_2_2_0_1_1
  · exact wk9_0_0_2_2_0_1_2)
theorem wk9_0_0_2_2_0_2_0 : wk 9 2 8 6 (aw (aw (aw (aw (aw (aw (aw c0 1 0) 2 0) 3 2) 4 2) 5 0) 6 2) 7 0) = true := by decide +kernel
theorem wk9_0_0_2_2_0_2_1 : wk 9 2 8 7 (aw (aw (aw (aw (aw (aw (aw c0 1 0) 2 0) 3 2) 4 2) 5 0) 6 2) 7 1) = true := by decide +kernel
theorem wk9_0_0_2_2_0_2 : wk 9 3 7 6 (aw (aw (aw (aw (aw (aw c0 1 0) 2 0) 3 2) 4 2) 5 0) 6 2) = true := wk_c (fun v hv => by
  rcases (by omega : v = 0 ∨ v = 1) with rfl | rfl
  · exact wk9_0_0_2_2_0_2_0
  · exact wk9_0_0_2_2_0_2_1)
theorem wk9_0_0_2_2_0 : wk 9 4 6 4 (aw (aw (aw (aw (aw c0 1 0) 2 0) 3 2) 4 2) 5 0) = true := wk_c (fun v hv => by
  rcases (by omega : v = 0 ∨ v = 1 ∨ v = 2) with rfl | rfl | rfl
  · exact wk9_0_0_2_2_0_0
  · exact wk9_0_0_2_2_0_1
  · exact wk9_0_0_2_2_0_2)
theorem wk9_0_0_2_2_1_0_0 : wk 9 2 8 5 (aw (aw (aw (aw (aw (aw (aw c0 1 0) 2 0) 3 2) 4 2) 5 1) 6 0) 7 0) = true := by decide +kernel
theorem wk9_0_0_2_2_1_0_1 : wk 9 2 8 6 (aw (aw (aw (aw (aw (aw (aw c0 1 0) 2 0) 3 2) 4 2) 5 1) 6 0) 7 1) = true := by decide +kernel
theorem wk9_0_0_2_2_1_0_2 : wk 9 2 8 7 (aw (aw (aw (aw (aw (aw (aw c0 1 0) 2 0) 3 2) 4 2) 5 1) 6 0) 7 2) = true := by decide +kernel
theorem wk9_0_0_2_2_1_0 : wk 9 3 7 5 (aw (aw (aw (aw (aw (aw c0 1 0) 2 0) 3 2) 4 2) 5 1) 6 0) = true := wk_c (fun v hv => by
  rcases (by omega : v = 0 ∨ v = 1 ∨ v = 2) with rfl | rfl | rfl
  · exact wk9_0_0_2_2_1_0_0
  · exact wk9_0_0_2_2_1_0_1
  · exact wk9_0_0_2_2_1_0_2)
theorem wk9_0_0_2_2_1_1_0 : wk 9 2 8 6 (aw (aw (aw (aw (aw (aw (aw c0 1 0) 2 0) 3 2) 4 2) 5 1) 6 1) 7 0) = true := by decide +kernel
theorem wk9_0_0_2_2_1_1_1 : wk 9 2 8 7 (aw (aw (aw (aw (aw (aw (aw c0 1 0) 2 0) 3 2) 4 2) 5 1) 6 1) 7 1) = true := by decide +kernel
theorem wk9_0_0_2_2_1_1 : wk 9 3 7 6 (aw (aw (aw (aw (aw (aw c0 1 0) 2 0) 3 2) 4 2) 5 1) 6 1) = true := wk_c (fun v hv => by
  rcases (by omega : v = 0 ∨ v = 1) with rfl | rfl
  · exact wk9_0_0_2_2_1_1_0
  · exact wk9_0_0_2_2_1_1_1)
theorem wk9_0_0_2_2_1 : wk 9 4 6 5 (aw (aw (aw (aw (aw c0 1 0) 2 0) 3 2) 4 2) 5 1) = true := wk_c (fun v hv => by
  rcases (by omega : v = 0 ∨ v = 1) with rfl | rfl
  · exact wk9_0_0_2_2_1_0
  · exact wk9_0_0_2_2_1_1)
theorem wk9_0_0_2_2 : wk 9 5 5 4 (aw (aw (aw (aw c0 1 0) 2 0) 3 2) 4 2) = true := wk_c (fun v hv => by
  rcases (by omega : v = 0 ∨ v = 1) with rfl | rfl
  · exact wk9_0_0_2_2_0
  · exact wk9_0_0_2_2_1)
theorem wk9_0_0_2 : wk 9 6 4 2 (aw (aw (aw c0 1 0) 2 0) 3 2) = true := wk_c (fun v hv => by
  rcases (by omega : v = 0 ∨ v = 1 ∨ v = 2) with rfl | rfl | rfl
  · exact wk9_0_0_2_0
  · exact wk9_0_0_2_1
  · exact wk9_0_0_2_2)
theorem wk9_0_0_3_0_0_0_0 : wk 9 2 8 3 (aw (aw (aw (aw (aw (aw (aw c0 1 0) 2 0) 3 3) 4 0) 5 0) 6 0) 7 0) = true := by decide +kernel
theorem wk9_0_0_3_0_0_0_1 : wk 9 2 8 4 (aw (aw (aw (aw (aw (aw (aw c0 1 0) 2 0) 3 3) 4 0) 5 0) 6 0) 7 1) = true := by decide +kernel
theorem wk9_0_0_3_0_0_0_2 : wk 9 2 8 5 (aw (aw (aw (aw (aw (aw (aw c0 1 0) 2 0) 3 3) 4 0) 5 0) 6 0) 7 2) = true := by decide +kernel
theorem wk9_0_0_3_0_0_0_3 : wk 9 2 8 6 (aw (aw (aw (aw (aw (aw (aw c0 1 0) 2 0) 3 3) 4 0) 5 0) 6 0) 7 3) = true := by decide +kernel
theorem wk9_0_0_3_0_0_0_4 : wk 9 2 8 7 (aw (aw (aw (aw (aw (aw (aw c0 1 0) 2 0) 3 3) 4 0) 5 0) 6 0) 7 4) = true := by decide +kernel
theorem wk9_0_0_3_0_0_0 : wk 9 3 7 3 (aw (aw (aw (aw (aw (aw c0 1 0) 2 0) 3 3) 4 0) 5 0) 6 0) = true := wk_c (fun v hv => by
  rcases (by omega : v = 0 ∨ v = 1 ∨ v = 2 ∨ v = 3 ∨ v = 4) with rfl | rfl | rfl | rfl | rfl
  · exact wk9_0_0_3_0_0_0_0
  · exact wk9_0_0_3_0_0_0_1
  · exact wk9_0_0_3_0_0_0_2
  · exact wk9_0_0_3_0_0_0_3
  · exact wk9_0_0_3_0_0_0_4)
theorem wk9_0_0_3_0_0_1_0 : wk 9 2 8 4 (aw (aw (aw (aw (aw (aw (aw c0 1 0) 2 0) 3 3) 4 0) 5 0) 6 1) 7 0) = true := by decide +kernel
theorem wk9_0_0_3_0_0_1_1 : wk 9 2 8 5 (aw (aw (aw (aw (aw (aw (aw c0 1 0) 2 0) 3 3) 4 0) 5 0) 6 1) 7 1) = true := by decide +kernel
theorem wk9_0_0_3_0_0_1_2 : wk 9 2 8 6 (aw (aw (aw (aw (aw (aw (aw c0 1 0) 2 0) 3 3) 4 0) 5 0) 6 1) 7 2) = true := by decide +kernel
theorem wk9_0_0_3_0_0_1_3 : wk 9 2 8 7 (aw (aw (aw (aw (aw (aw (aw c0 1 0) 2 0) 3 3) 4 0) 5 0) 6 1) 7 3) = true := by decide +kernel
theorem wk9_0_0_3_0_0_1 : wk 9 3 7 4 (aw (aw (aw (aw (aw (aw c0 1 0) 2 0) 3 3) 4 0) 5 0) 6 1) = true := wk_c (fun v hv => by
  rcases (by omega : v = 0 ∨ v = 1 ∨ v = 2 ∨ v = 3) with rfl | rfl | rfl | rfl
  · exact wk9_0_0_3_0_0_1_0
  · exact wk9_0_0_3_0_0_1_1
  · exact wk9_0_0_3_0_0_1_2
  · exact wk9_0_0_3_0_0_1_3)
theorem wk9_0_0_3_0_0_2_0 : wk 9 2 8 5 (aw (aw (aw (aw (aw (aw (aw c0 1 0) 2 0) 3 3) 4 0) 5 0) 6 2) 7 0) = true := by decide +kernel
theorem wk9_0_0_3_0_0_2_1 : wk 9 2 8 6 (aw (aw (aw (aw (aw (aw (aw c0 1 0) 2 0) 3 3) 4 0) 5 0) 6 2) 7 1) = true := by decide +kernel
theorem wk9_0_0_3_0_0_2_2 : wk 9 2 8 7 (aw (aw (aw (aw (aw (aw (aw c0 1 0) 2 0) 3 3) 4 0) 5 0) 6 2) 7 2) = true := by decide +kernel
theorem wk9_0_0_3_0_0_2 : wk 9 3 7 5 (aw (aw (aw (aw (aw (aw c0 1 0) 2 0) 3 3) 4 0) 5 0) 6 2) = true := wk_c (fun v hv => by
  rcases (by omega : v = 0 ∨ v = 1 ∨ v = 2) with rfl | rfl | rfl
  · exact wk9_0_0_3_0_0_2_0
  · exact wk9_0_0_3_0_0_2_1
  · exact wk9_0_0_3_0_0_2_2)
theorem wk9_0_0_3_0_0_3_0 : wk 9 2 8 6 (aw (aw (aw (aw (aw (aw (aw c0 1 0) 2 0) 3 3) 4 0) 5 0) 6 3) 7 0) = true := by decide +kernel
theorem wk9_0_0_3_0_0_3_1 : wk 9 2 8 7 (aw (aw (aw (aw (aw (aw (aw c0 1 0) 2 0) 3 3) 4 0) 5 0) 6 3) 7 1) = true := by decide +kernel
theorem wk9_0_0_3_0_0_3 : wk 9 3 7 6 (aw (aw (aw (aw (aw (aw c0 1 0) 2 0) 3 3) 4 0) 5 0) 6 3) = true := wk_c (fun v hv => by
  rcases (by omega : v = 0 ∨ v = 1) with rfl | rfl
  · exact wk9_0_0_3_0_0_3_0
  · exact wk9_0_0_3_0_0_3_1)
theorem wk9_0_0_3_0_0 : wk 9 4 6 3 (aw (aw (aw (aw (aw c0 1 0) 2 0) 3 3) 4 0) 5 0) = true := wk_c (fun v hv => by
  rcases (by omega : v = 0 ∨ v = 1 ∨ v = 2 ∨ v = 3) with rfl | rfl | rfl | rfl
  · exact wk9_0_0_3_0_0_0
  · exact wk9_0_0_3_0_0_1
  · exact wk9_0_0_3_0_0_2
  · exact wk9_0_0_3_0_0_3)
theorem wk9_0_0_3_0_1_0_0 : wk 9 2 8 4 (aw (aw (aw (aw (aw (aw (aw c0 1 0) 2 0) 3 3) 4 0) 5 1) 6 0) 7 0) = true := by decide +kernel
theorem wk9_0_0_3_0_1_0_1 : wk 9 2 8 5 (aw (aw (aw (aw (aw (aw (aw c0 1 0) 2 0) 3 3) 4 0) 5 1) 6 0) 7 1) = true := by decide +kernel
theorem wk9_0_0_3_0_1_0_2 : wk 9 2 8 6 (aw (aw (aw (aw (aw (aw (aw c0 1 0) 2 0) 3 3) 4 0) 5 1) 6 0) 7 2) = true := by decide +kernel
theorem wk9_0_0_3_0_1_0_3 : wk 9 2 8 7 (aw (aw (aw (aw (aw (aw (aw c0 1 0) 2 0) 3 3) 4 0) 5 1) 6 0) 7 3) = true := by decide +kernel
theorem wk9_0_0_3_0_1_0 : wk 9 3 7 4 (aw (aw (aw (aw (aw (aw c0 1 0) 2 0) 3 3) 4 0) 5 1) 6 0) = true := wk_c (fun v hv => by
  rcases (by omega : v = 0 ∨ v = 1 ∨ v = 2 ∨ v = 3) with rfl | rfl | rfl | rfl
  · exact wk9_0_0_3_0_1_0_0
  · exact wk9_0_0_3_0_1_0_1
  · exact wk9_0_0_3_0_1_0_2
  · exact wk9_0_0_3_0_1_0_3)
theorem wk9_0_0_3_0_1_1_0 : wk 9 2 8 5 (aw (aw (aw (aw (aw (aw (aw c0 1 0) 2 0) 3 3) 4 0) 5 1) 6 1) 7 0) = true := by decide +kernel
theorem wk9_0_0_3_0_1_1_1 : wk 9 2 8 6 (aw (aw (aw (aw (aw (aw (aw c0 1 0) 2 0) 3 3) 4 0) 5 1) 6 1) 7 1) = true := by decide +kernel
theorem wk9_0_0_3_0_1_1_2 : wk 9 2 8 7 (aw (aw (aw (aw (aw (aw (aw c0 1 0) 2 0) 3 3) 4 0) 5 1) 6 1) 7 2) = true := by decide +kernel
theorem wk9_0_0_3_0_1_1 : wk 9 3 7 5 (aw (aw (aw (aw (aw (aw c0 1 0) 2 0) 3 3) 4 0) 5 1) 6 1) = true := wk_c (fun v hv => by
  rcases (by omega : v = 0 ∨ v = 1 ∨ v = 2) with rfl | rfl | rfl
  · exact wk9_0_0_3_0_1_1_0
  · exact wk9_0_0_3_0_1_1_1
  · exact wk9_0_0_3_0_1_1_2)
theorem wk9_0_0_3_0_1_2_0 : wk 9 2 8 6 (aw (aw (aw (aw (aw (aw (aw c0 1 0) 2 0) 3 3) 4 0) 5 1) 6 2) 7 0) = true := by decide +kernel
theorem wk9_0_0_3_0_1_2_1 : wk 9 2 8 7 (aw (aw (aw (aw (aw (aw (aw c0 1 0) 2 0) 3 3) 4 0) 5 1) 6 2) 7 1) = true := by decide +kernel
theorem wk9_0_0_3_0_1_2 : wk 9 3 7 6 (aw (aw (aw (aw (aw (aw c0 1 0) 2 0) 3 3) 4 0) 5 1) 6 2) = true := wk_c (fun v hv => by
  rcases (by omega : v = 0 ∨ v = 1) with rfl | rfl
  · exact wk9_0_0_3_0_1_2_0
  · exact wk9_0_0_3_0_1_2_1)
theorem wk9_0_0_3_0_1 : wk 9 4 6 4 (aw (aw (aw (aw (aw c0 1 0) 2 0) 3 3) 4 0) 5 1) = true := wk_c (fun v hv => by
  rcases (by omega : v = 0 ∨ v = 1 ∨ v = 2) with rfl | rfl | rfl
  · exact wk9_0_0_3_0_1_0
  · exact wk9_0_0_3_0_1_1
  · exact wk9_0_0_3_0_1_2)
theorem wk9_0_0_3_0_2_0_0 : wk 9 2 8 5 (aw (aw (aw (aw (aw (aw (aw c0 1 0) 2 0) 3 3) 4 0) 5 2) 6 0) 7 0) = true := by decide +kernel
theorem wk9_0_0_3_0_2_0_1 : wk 9 2 8 6 (aw (aw (aw (aw (aw (aw (aw c0 1 0) 2 0) 3 3) 4 0) 5 2) 6 0) 7 1) = true := by decide +kernel
theorem wk9_0_0_3_0_2_0_2 : wk 9 2 8 7 (aw (aw (aw (aw (aw (aw (aw c0 1 0) 2 0) 3 3) 4 0) 5 2) 6 0) 7 2) = true := by decide +kernel
theorem wk9_0_0_3_0_2_0 : wk 9 3 7 5 (aw (aw (aw (aw (aw (aw c0 1 0) 2 0) 3 3) 4 0) 5 2) 6 0) = true := wk_c (fun v hv => by
  rcases (by omega : v = 0 ∨ v = 1 ∨ v = 2) with rfl | rfl | rfl
  · exact wk9_0_0_3_0_2_0_0
  · exact wk9_0_0_3_0_2_0_1
  · exact wk9_0_0_3_0_2_0_2)
theorem wk9_0_0_3_0_2_1_0 : wk 9 2 8 6 (aw (aw (aw (aw (aw (aw (aw c0 1 0) 2 0) 3 3) 4 0) 5 2) 6 1) 7 0) = true := by decide +kernel
theorem wk9_0_0_3_0_2_1_1 : wk 9 2 8 7 (aw (aw (aw (aw (aw (aw (aw c0 1 0) 2 0) 3 3) 4 0) 5 2) 6 1) 7 1) = true := by decide +kernel
theorem wk9_0_0_3_0_2_1 : wk 9 3 7 6 (aw (aw (aw (aw (aw (aw c0 1 0) 2 0) 3 3) 4 0) 5 2) 6 1) = true := wk_c (fun v hv => by
  rcases (by omega : v = 0 ∨ v = 1) with rfl | rfl
  · exact wk9_0_0_3_0_2_1_0
  · exact wk9_0_0_3_0_2_1_1)
theorem wk9_0_0_3_0_2 : wk 9 4 6 5 (aw (aw (aw (aw (aw c0 1 0) 2 0) 3 3) 4 0) 5 2) = true := wk_c (fun v hv => by
  rcases (by omega : v = 0 ∨ v = 1) with rfl | rfl
  · exact wk9_0_0_3_0_2_0
  · exact wk9_0_0_3_0_2_1)
theorem wk9_0_0_3_0 : wk 9 5 5 3 (aw (aw (aw (aw c0 1 0) 2 0) 3 3) 4 0) = true := wk_c (fun v hv => by
  rcases (by omega : v = 0 ∨ v = 1 ∨ v = 2) with rfl | rfl | rfl
  · exact wk9_0_0_3_0_0
  · exact wk9_0_0_3_0_1
  · exact wk9_0_0_3_0_2)
theorem wk9_0_0_3_1_0_0_0 : wk 9 2 8 4 (aw (aw (aw (aw (aw (aw (aw c0 1 0) 2 0) 3 3) 4 1) 5 0) 6 0) 7 0) = true := by decide +kernel
theorem wk9_0_0_3_1_0_0_1 : wk 9 2 8 5 (aw (aw (aw (aw (aw (aw (aw c0 1 0) 2 0) 3 3) 4 1) 5 0) 6 0) 7 1) = true := by decide +kernel
theorem wk9_0_0_3_1_0_0_2 : wk 9 2 8 6 (aw (aw (aw (aw (aw (aw (aw c0 1 0) 2 0) 3 3) 4 1) 5 0) 6 0) 7 2) = true := by decide +kernel
theorem wk9_0_0_3_1_0_0_3 : wk 9 2 8 7 (aw (aw (aw (aw (aw (aw (aw c0 1 0) 2 0) 3 3) 4 1) 5 0) 6 0) 7 3) = true := by decide +kernel
theorem wk9_0_0_3_1_0_0 : wk 9 3 7 4 (aw (aw (aw (aw (aw (aw c0 1 0) 2 0) 3 3) 4 1) 5 0) 6 0) = true := wk_c (fun v hv => by
  rcases (by omega : v = 0 ∨ v = 1 ∨ v = 2 ∨ v = 3) with rfl | rfl | rfl | rfl
  · exact wk9_0_0_3_1_0_0_0
  · exact wk9_0_0_3_1_0_0_1
  · exact wk9_0_0_3_1_0_0_2
  · exact wk9_0_0_3_1_0_0_3)
theorem wk9_0_0_3_1_0_1_0 : wk 9 2 8 5 (aw (aw (aw (aw (aw (aw (aw c0 1 0) 2 0) 3 3) 4 1) 5 0) 6 1) 7 0) = true := by decide +kernel
theorem wk9_0_0_3_1_0_1_1 : wk 9 2 8 6 (aw (aw (aw (aw (aw (aw (aw c0 1 0) 2 0) 3 3) 4 1) 5 0) 6 1) 7 1) = true := by decide +kernel
theorem wk9_0_0_3_1_0_1_2 : wk 9 2 8 7 (aw (aw (aw (aw (aw (aw (aw c0 1 0) 2 0) 3 3) 4 1) 5 0) 6 1) 7 2) = true := by decide +kernel
theorem wk9_0_0_3_1_0_1 : wk 9 3 7 5 (aw (aw (aw (aw (aw (aw c0 1 0) 2 0) 3 3) 4 1) 5 0) 6 1) = true := wk_c (fun v hv => by
  rcases (by omega : v = 0 ∨ v = 1 ∨ v = 2) with rfl | rfl | rfl
  · exact wk9_0_0_3_1_0_1_0
  · exact wk9_0_0_3_1_0_1_1
  · exact wk9_0_0_3_1_0_1_2)
theorem wk9_0_0_3_1_0_2_0 : wk 9 2 8 6 (aw (aw (aw (aw (aw (aw (aw c0 1 0) 2 0) 3 3) 4 1) 5 0) 6 2) 7 0) = true := by decide +kernel
theorem wk9_0_0_3_1_0_2_1 : wk 9 2 8 7 (aw (aw (aw (aw (aw (aw (aw c0 1 0) 2 0) 3 3) 4 1) 5 0) 6 2) 7 1) = true := by decide +kernel
theorem wk9_0_0_3_1_0_2 : wk 9 3 7 6 (aw (aw (aw (aw (aw (aw c0 1 0) 2 0) 3 3) 4 1) 5 0) 6 2) = true := wk_c (fun v hv => by
  rcases (by omega : v = 0 ∨ v = 1) with rfl | rfl
  · exact wk9_0_0_3_1_0_2_0
  · exact wk9_0_0_3_1_0_2_1)
theorem wk9_0_0_3_1_0 : wk 9 4 6 4 (aw (aw (aw (aw (aw c0 1 0) 2 0) 3 3) 4 1) 5 0) = true := wk_c (fun v hv => by
  rcases (by omega : v = 0 ∨ v = 1 ∨ v = 2) with rfl | rfl | rfl
  · exact wk9_0_0_3_1_0_0
  · exact wk9_0_0_3_1_0_1
  · exact wk9_0_0_3_1_0_2)
theorem wk9_0_0_3_1_1_0_0 : wk 9 2 8 5 (aw (aw (aw (aw (aw (aw (aw c0 1 0) 2 0) 3 3) 4 1) 5 1) 6 0) 7 0) = true := by decide +kernel
theorem wk9_0_0_3_1_1_0_1 : wk 9 2 8 6 (aw (aw (aw (aw (aw (aw (aw c0 1 0) 2 0) 3 3) 4 1) 5 1) 6 0) 7 1) = true := by decide +kernel
theorem wk9_0_0_3_1_1_0_2 : wk 9 2 8 7 (aw (aw (aw (aw (aw (aw (aw c0 1 0) 2 0) 3 3) 4 1) 5 1) 6 0) 7 2) = true := by decide +kernel
theorem wk9_0_0_3_1_1_0 : wk 9 3 7 5 (aw (aw (aw (aw (aw (aw c0 1 0) 2 0) 3 3) 4 1) 5 1) 6 0) = true := wk_c (fun v hv => by
  rcases (by omega : v = 0 ∨ v = 1 ∨ v = 2) with rfl | rfl | rfl
  · exact wk9_0_0_3_1_1_0_0
  · exact wk9_0_0_3_1_1_0_1
  · exact wk9_0_0_3_1_1_0_2)
theorem wk9_0_0_3_1_1_1_0 : wk 9 2 8 6 (aw (aw (aw (aw (aw (aw (aw c0 1 0) 2 0) 3 3) 4 1) 5 1) 6 1) 7 0) = true := by decide +kernel
theorem wk9_0_0_3_1_1_1_1 : wk 9 2 8 7 (aw (aw (aw (aw (aw (aw (aw c0 1 0) 2 0) 3 3) 4 1) 5 1) 6 1) 7 1) = true := by decide +kernel
theorem wk9_0_0_3_1_1_1 : wk 9 3 7 6 (aw (aw (aw (aw (aw (aw c0 1 0) 2 0) 3 3) 4 1) 5 1) 6 1) = true := wk_c (fun v hv => by
  rcases (by omega : v = 0 ∨ v = 1) with rfl | rfl
  · exact wk9_0_0_3_1_1_1_0
  · exact wk9_0_0_3_1_1_1_1)
theorem wk9_0_0_3_1_1 : wk 9 4 6 5 (aw (aw (aw (aw (aw c0 1 0) 2 0) 3 3) 4 1) 5 1) = true := wk_c (fun v hv => by
  rcases (by omega : v = 0 ∨ v = 1) with rfl | rfl
  · exact wk9_0_0_3_1_1_0
  · exact wk9_0_0_3_1_1_1)
theorem wk9_0_0_3_1 : wk 9 5 5 4 (aw (aw (aw (aw c0 1 0) 2 0) 3 3) 4 1) = true := wk_c (fun v hv => by
  rcases (by omega : v = 0 ∨ v = 1) with rfl | rfl
  · exact wk9_0_0_3_1_0
  · exact wk9_0_0_3_1_1)
theorem wk9_0_0_3 : wk 9 6 4 3 (aw (aw (aw c0 1 0) 2 0) 3 3) = true := wk_c (fun v hv => by
  rcases (by omega : v = 0 ∨ v = 1) with rfl | rfl
  · exact wk9_0_0_3_0
  · exact wk9_0_0_3_1)
theorem wk9_0_0 : wk 9 7 3 0 (aw (aw c0 1 0) 2 0) = true := wk_c (fun v hv => by
  rcases (by omega : v = 0 ∨ v = 1 ∨ v = 2 ∨ v = 3) with rfl | rfl | rfl | rfl
  · exact wk9_0_0_0
  · exact wk9_0_0_1
  · exact wk9_0_0_2
  · exact wk9_0_0_3)
theorem wk9_0_1_0_0_0_0_0 : wk 9 2 8 1 (aw (aw (aw (aw (aw (aw (aw c0 1 0) 2 1) 3 0) 4 0) 5 0) 6 0) 7 0) = true := by decide +kernel
theorem wk9_0_1_0_0_0_0_1 : wk 9 2 8 2 (aw (aw (aw (aw (aw (aw (aw c0 1 0) 2 1) 3 0) 4 0) 5 0) 6 0) 7 1) = true := by decide +kernel
theorem wk9_0_1_0_0_0_0_2 : wk 9 2 8 3 (aw (aw (aw (aw (aw (aw (aw c0 1 0) 2 1) 3 0) 4 0) 5 0) 6 0) 7 2) = true := by decide +kernel
theorem wk9_0_1_0_0_0_0_3 : wk 9 2 8 4 (aw (aw (aw (aw (aw (aw (aw c0 1 0) 2 1) 3 0) 4 0) 5 0) 6 0) 7 3) = true := by decide +kernel
theorem wk9_0_1_0_0_0_0_4 : wk 9 2 8 5 (aw (aw (aw (aw (aw (aw (aw c0 1 0) 2 1) 3 0) 4 0) 5 0) 6 0) 7 4) = true := by decide +kernel
theorem wk9_0_1_0_0_0_0_5 : wk 9 2 8 6 (aw (aw (aw (aw (aw (aw (aw c0 1 0) 2 1) 3 0) 4 0) 5 0) 6 0) 7 5) = true := by decide +kernel
theorem wk9_0_1_0_0_0_0_6 : wk 9 2 8 7 (aw (aw (aw (aw (aw (aw (aw c0 1 0) 2 1) 3 0) 4 0) 5 0) 6 0) 7 6) = true := by decide +kernel
theorem wk9_0_1_0_0_0_0 : wk 9 3 7 1 (aw (aw (aw (aw (aw (aw c0 1 0) 2 1) 3 0) 4 0) 5 0) 6 0) = true := wk_c (fun v hv => by
  rcases (by omega : v = 0 ∨ v = 1 ∨ v = 2 ∨ v = 3 ∨ v = 4 ∨ v = 5 ∨ v = 6) with rfl | rfl | rfl | rfl | rfl | rfl | rfl
  · exact wk9_0_1_0_0_0_0_0
  · exact wk9_0_1_0_0_0_0_1
  · exact wk9_0_1_0_0_0_0_2
  · exact wk9_0_1_0_0_0_0_3
  · exact wk9_0_1_0_0_0_0_4
  · exact wk9_0_1_0_0_0_0_5
  · exact wk9_0_1_0_0_0_0_6)
theorem wk9_0_1_0_0_0_1_0 : wk 9 2 8 2 (aw (aw (aw (aw (aw (aw (aw c0 1 0) 2 1) 3 0) 4 0) 5 0) 6 1) 7 0) = true := by decide +kernel
theorem wk9_0_1_0_0_0_1_1 : wk 9 2 8 3 (aw (aw (aw (aw (aw (aw (aw c0 1 0) 2 1) 3 0) 4 0) 5 0) 6 1) 7 1) = true := by decide +kernel
theorem wk9_0_1_0_0_0_1_2 : wk 9 2 8 4 (aw (aw (aw (aw (aw (aw (aw c0 1 0) 2 1) 3 0) 4 0) 5 0) 6 1) 7 2) = true := by decide +kernel
theorem wk9_0_1_0_0_0_1_3 : wk 9 2 8 5 (aw (aw (aw (aw (aw (aw (aw c0 1 0) 2 1) 3 0) 4 0) 5 0) 6 1) 7 3) = true := by decide +kernel
theorem wk9_0_1_0_0_0_1_4 : wk 9 2 8 6 (aw (aw (aw (aw (aw (aw (aw c0 1 0) 2 1) 3 0) 4 0) 5 0) 6 1) 7 4) = true := by decide +kernel
theorem wk9_0_1_0_0_0_1_5 : wk 9 2 8 7 (aw (aw (aw (aw (aw (aw (aw c0 1 0) 2 1) 3 0) 4 0) 5 0) 6 1) 7 5) = true := by decide +kernel
theorem wk9_0_1_0_0_0_1 : wk 9 3 7 2 (aw (aw (aw (aw (aw (aw c0 1 0) 2 1) 3 0) 4 0) 5 0) 6 1) = true := wk_c (fun v hv => by
  rcases (by omega : v = 0 ∨ v = 1 ∨ v = 2 ∨ v = 3 ∨ v = 4 ∨ v = 5) with rfl | rfl | rfl | rfl | rfl | rfl
  · exact wk9_0_1_0_0_0_1_0
  · exact wk9_0_1_0_0_0_1_1
  · exact wk9_0_1_0_0_0_1_2
  · exact wk9_0_1_0_0_0_1_3
  · exact wk9_0_1_0_0_0_1_4
  · exact wk9_0_1_0_0_0_1_5)
theorem wk9_0_1_0_0_0_2_0 : wk 9 2 8 3 (aw (aw (aw (aw (aw (aw (aw c0 1 0) 2 1) 3 0) 4 0) 5 0) 6 2) 7 0) = true := by decide +kernel
theorem wk9_0_1_0_0_0_2_1 : wk 9 2 8 4 (aw (aw (aw (aw (aw (aw (aw c0 1 0) 2 1) 3 0) 4 0) 5 0) 6 2) 7 1) = true := by decide +kernel
theorem wk9_0_1_0_0_0_2_2 : wk 9 2 8 5 (aw (aw (aw (aw (aw (aw (aw c0 1 0) 2 1) 3 0) 4 0) 5 0) 6 2) 7 2) = true := by decide +kernel
theorem wk9_0_1_0_0_0_2_3 : wk 9 2 8 6 (aw (aw (aw (aw (aw (aw (aw c0 1 0) 2 1) 3 0) 4 0) 5 0) 6 2) 7 3) = true := by decide +kernel
theorem wk9_0_1_0_0_0_2_4 : wk 9 2 8 7 (aw (aw (aw (aw (aw (aw (aw c0 1 0) 2 1) 3 0) 4 0) 5 0) 6 2) 7 4) = true := by decide +kernel
theorem wk9_0_1_0_0_0_2 : wk 9 3 7 3 (aw (aw (aw (aw (aw (aw c0 1 0) 2 1) 3 0) 4 0) 5 0) 6 2) = true := wk_c (fun v hv => by
  rcases (by omega : v = 0 ∨ v = 1 ∨ v = 2 ∨ v = 3 ∨ v = 4) with rfl | rfl | rfl | rfl | rfl
  · exact wk9_0_1_0_0_0_2_0
  · exact wk9_0_1_0_0_0_2_1
  · exact wk9_0_1_0_0_0_2_2
  · exact wk9_0_1_0_0_0_2_3
  · exact wk9_0_1_0_0_0_2_4)
theorem wk9_0_1_0_0_0_3_0 : wk 9 2 8 4 (aw (aw (aw (aw (aw (aw (aw c0 1 0) 2 1) 3 0) 4 0) 5 0) 6 3) 7 0) = true := by decide +kernel
theorem wk9_0_1_0_0_0_3_1 : wk 9 2 8 5 (aw (aw (aw (aw (aw (aw (aw c0 1 0) 2 1) 3 0) 4 0) 5 0) 6 3) 7 1) = true := by decide +kernel
theorem wk9_0_1_0_0_0_3_2 : wk 9 2 8 6 (aw (aw (aw (aw (aw (aw (aw c0 1 0) 2 1) 3 0) 4 0) 5 0) 6 3) 7 2) = true := by decide +kernel
theorem wk9_0_1_0_0_0_3_3 : wk 9 2 8 7 (aw (aw (aw (aw (aw (aw (aw c0 1 0) 2 1) 3 0) 4 0) 5 0) 6 3) 7 3) = true := by decide +kernel
theorem wk9_0_1_0_0_0_3 : wk 9 3 7 4 (aw (aw (aw (aw (aw (aw c0 1 0) 2 1) 3 0) 4 0) 5 0) 6 3) = true := wk_c (fun v hv => by
  rcases (by omega : v = 0 ∨ v = 1 ∨ v = 2 ∨ v = 3) with rfl | rfl | rfl | rfl
  · exact wk9_0_1_0_0_0_3_0
  · exact wk9_0_1_0_0_0_3_1
  · exact wk9_0_1_0_0_0_3_2
  · exact wk9_0_1_0_0_0_3_3)
theorem wk9_0_1_0_0_0_4_0 : wk 9 2 8 5 (aw (aw (aw (aw (aw (aw (aw c0 1 0) 2 1) 3 0) 4 0) 5 0) 6 4) 7 0) = true := by decide +kernel
theorem wk9_0_1_0_0_0_4_1 : wk 9 2 8 6 (aw (aw (aw (aw (aw (aw (aw c0 1 0) 2 1) 3 0) 4 0) 5 0) 6 4) 7 1) = true := by decide +kernel
theorem wk9_0_1_0_0_0_4_2 : wk 9 2 8 7 (aw (aw (aw (aw (aw (aw (aw c0 1 0) 2 1) 3 0) 4 0) 5 0) 6 4) 7 2) = true := by decide +kernel
theorem wk9_0_1_0_0_0_4 : wk 9 3 7 5 (aw (aw (aw (aw (aw (aw c0 1 0) 2 1) 3 0) 4 0) 5 0) 6 4) = true := wk_c (fun v hv => by
  rcases (by omega : v = 0 ∨ v = 1 ∨ v = 2) with rfl | rfl | rfl
  · exact wk9_0_1_0_0_0_4_0
  · exact wk9_0_1_0_0_0_4_1
  · exact wk9_0_1_0_0_0_4_2)
theorem wk9_0_1_0_0_0_5_0 : wk 9 2 8 6 (aw (aw (aw (aw (aw (aw (aw c0 1 0) 2 1) 3 0) 4 0) 5 0) 6 5) 7 0) = true := by decide +kernel
theorem wk9_0_1_0_0_0_5_1 : wk 9 2 8 7 (aw (aw (aw (aw (aw (aw (aw c0 1 0) 2 1) 3 0) 4 0) 5 0) 6 5) 7 1) = true := by decide +kernel
theorem wk9_0_1_0_0_0_5 : wk 9 3 7 6 (aw (aw (aw (aw (aw (aw c0 1 0) 2 1) 3 0) 4 0) 5 0) 6 5) = true := wk_c (fun v hv => by
  rcases (by omega : v = 0 ∨ v = 1) with rfl | rfl
  · exact wk9_0_1_0_0_0_5_0
  · exact wk9_0_1_0_0_0_5_1)
theorem wk9_0_1_0_0_0 : wk 9 4 6 1 (aw (aw (aw (aw (aw c0 1 0) 2 1) 3 0) 4 0) 5 0) = true := wk_c (fun v hv => by
  rcases (by omega : v = 0 ∨ v = 1 ∨ v = 2 ∨ v = 3 ∨ v = 4 ∨ v = 5) with rfl | rfl | rfl | rfl | rfl | rfl
  · exact wk9_0_1_0_0_0_0
  · exact wk9_0_1_0_0_0_1
  · exact wk9_0_1_0_0_0_2
  · exact wk9_0_1_0_0_0_3
  · exact wk9_0_1_0_0_0_4
  · exact wk9_0_1_0_0_0_5)
theorem wk9_0_1_0_0_1_0_0 : wk 9 2 8 2 (aw (aw (aw (aw (aw (aw (aw c0 1 0) 2 1) 3 0) 4 0) 5 1) 6 0) 7 0) = true := by decide +kernel
theorem wk9_0_1_0_0_1_0_1 : wk 9 2 8 3 (aw (aw (aw (aw (aw (aw (aw c0 1 0) 2 1) 3 0) 4 0) 5 1) 6 0) 7 1) = true := by decide +kernel
theorem wk9_0_1_0_0_1_0_2 : wk 9 2 8 4 (aw (aw (aw (aw (aw (aw (aw c0 1 0) 2 1) 3 0) 4 0) 5 1) 6 0) 7 2) = true := by decide +kernel
theorem wk9_0_1_0_0_1_0_3 : wk 9 2 8 5 (aw (aw (aw (aw (aw (aw (aw c0 1 0) 2 1) 3 0) 4 0) 5 1) 6 0) 7 3) = true := by decide +kernel
theorem wk9_0_1_0_0_1_0_4 : wk 9 2 8 6 (aw (aw (aw (aw (aw (aw (aw c0 1 0) 2 1) 3 0) 4 0) 5 1) 6 0) 7 4) = true := by decide +kernel
theorem wk9_0_1_0_0_1_0_5 : wk 9 2 8 7 (aw (aw (aw (aw (aw (aw (aw c0 1 0) 2 1) 3 0) 4 0) 5 1) 6 0) 7 5) = true := by decide +kernel
theorem wk9_0_1_0_0_1_0 : wk 9 3 7 2 (aw (aw (aw (aw (aw (aw c0 1 0) 2 1) 3 0) 4 0) 5 1) 6 0) = true := wk_c (fun v hv => by
  rcases (by omega : v = 0 ∨ v = 1 ∨ v = 2 ∨ v = 3 ∨ v = 4 ∨ v = 5) with rfl | rfl | rfl | rfl | rfl | rfl
  · exact wk9_0_1_0_0_1_0_0
  · exact wk9_0_1_0_0_1_0_1
  · exact wk9_0_1_0_0_1_0_2
  · exact wk9_0_1_0_0_1_0_3
  · exact wk9_0_1_0_0_1_0_4
  · exact wk9_0_1_0_0_1_0_5)
theorem wk9_0_1_0_0_1_1_0 : wk 9 2 8 3 (aw (aw (aw (aw (aw (aw (aw c0 1 0) 2 1) 3 0) 4 0) 5 1) 6 1) 7 0) = true := by decide +kernel
theorem wk9_0_1_0_0_1_1_1 : wk 9 2 8 4 (aw (aw (aw (aw (aw (aw (aw c0 1 0) 2 1) 3 0) 4 0) 5 1) 6 1) 7 1) = true := by decide +kernel
theorem wk9_0_1_0_0_1_1_2 : wk 9 2 8 5 (aw (aw (aw (aw (aw (aw (aw c0 1 0) 2 1) 3 0) 4 0) 5 1) 6 1) 7 2) = true := by decide +kernel
theorem wk9_0_1_0_0_1_1_3 : wk 9 2 8 6 (aw (aw (aw (aw (aw (aw (aw c0 1 0) 2 1) 3 0) 4 0) 5 1) 6 1) 7 3) = true := by decide +kernel
theorem wk9_0_1_0_0_1_1_4 : wk 9 2 8 7 (aw (aw (aw (aw (aw (aw (aw c0 1 0) 2 1) 3 0) 4 0) 5 1) 6 1) 7 4) = true := by decide +kernel
theorem wk9_0_1_0_0_1_1 : wk 9 3 7 3 (aw (aw (aw (aw (aw (aw c0 1 0) 2 1) 3 0) 4 0) 5 1) 6 1) = true := wk_c (fun v hv => by
  rcases (by omega : v = 0 ∨ v = 1 ∨ v = 2 ∨ v = 3 ∨ v = 4) with rfl | rfl | rfl | rfl | rfl
  · exact wk9_0_1_0_0_1_1_0
  · exact wk9_0_1_0_0_1_1_1
  · exact wk9_0_1_0_0_1_1_2
  · exact wk9_0_1_0_0_1_1_3
  · exact wk9_0_1_0_0_1_1_4)
theorem wk9_0_1_0_0_1_2_0 : wk 9 2 8 4 (aw (aw (aw (aw (aw (aw (aw c0 1 0) 2 1) 3 0) 4 0) 5 1) 6 2) 7 0) = true := by decide +kernel
theorem wk9_0_1_0_0_1_2_1 : wk 9 2 8 5 (aw (aw (aw (aw (aw (aw (aw c0 1 0) 2 1) 3 0) 4 0) 5 1) 6 2) 7 1) = true := by decide +kernel
theorem wk9_0_1_0_0_1_2_2 : wk 9 2 8 6 (aw (aw (aw (aw (aw (aw (aw c0 1 0) 2 1) 3 0) 4 0) 5 1) 6 2) 7 2) = true := by decide +kernel
theorem wk9_0_1_0_0_1_2_3 : wk 9 2 8 7 (aw (aw (aw (aw (aw (aw (aw c0 1 0) 2 1) 3 0) 4 0) 5 1) 6 2) 7 3) = true := by decide +kernel
theorem wk9_0_1_0_0_1_2 : wk 9 3 7 4 (aw (aw (aw (aw (aw (aw c0 1 0) 2 1) 3 0) 4 0) 5 1) 6 2) = true := wk_c (fun v hv => by
  rcases (by omega : v = 0 ∨ v = 1 ∨ v = 2 ∨ v = 3) with rfl | rfl | rfl | rfl
  · exact wk9_0_1_0_0_1_2_0
  · exact wk9_0_1_0_0_1_2_1
  · exact wk9_0_1_0_0_1_2_2
  · exact wk9_0_1_0_0_1_2_3)
theorem wk9_0_1_0_0_1_3_0 : wk 9 2 8 5 (aw (aw (aw (aw (aw (aw (aw c0 1 0) 2 1) 3 0) 4 0) 5 1) 6 3) 7 0) = true := by decide +kernel
theorem wk9_0_1_0_0_1_3_1 : wk 9 2 8 6 (aw (aw (aw (aw (aw (aw (aw c0 1 0) 2 1) 3 0) 4 0) 5 1) 6 3) 7 1) = true := by decide +kernel
theorem wk9_0_1_0_0_1_3_2 : wk 9 2 8 7 (aw (aw (aw (aw (aw (aw (aw c0 1 0) 2 1) 3 0) 4 0) 5 1) 6 3) 7 2) = true := by decide +kernel
theorem wk9_0_1_0_0_1_3 : wk 9 3 7 5 (aw (aw (aw (aw (aw (aw c0 1 0) 2 1) 3 0) 4 0) 5 1) 6 3) = true := wk_c (fun v hv => by
  rcases (by omega : v = 0 ∨ v = 1 ∨ v = 2) with rfl | rfl | rfl
  · exact wk9_0_1_0_0_1_3_0
  · exact wk9_0_1_0_0_1_3_1
  · exact wk9_0_1_0_0_1_3_2)
theorem wk9_0_1_0_0_1_4_0 : wk 9 2 8 6 (aw (aw (aw (aw (aw (aw (aw c0 1 0) 2 1) 3 0) 4 0) 5 1) 6 4) 7 0) = true := by decide +kernel
theorem wk9_0_1_0_0_1_4_1 : wk 9 2 8 7 (aw (aw (aw (aw (aw (aw (aw c0 1 0) 2 1) 3 0) 4 0) 5 1) 6 4) 7 1) = true := by decide +kernel
theorem wk9_0_1_0_0_1_4 : wk 9 3 7 6 (aw (aw (aw (aw (aw (aw c0 1 0) 2 1) 3 0) 4 0) 5 1) 6 4) = true := wk_c (fun v hv => by
  rcases (by omega : v = 0 ∨ v = 1) with rfl | rfl
  · exact wk9_0_1_0_0_1_4_0
  · exact wk9_0_1_0_0_1_4_1)
theorem wk9_0_1_0_0_1 : wk 9 4 6 2 (aw (aw (aw (aw (aw c0 1 0) 2 1) 3 0) 4 0) 5 1) = true := wk_c (fun v hv => by
  rcases (by omega : v = 0 ∨ v = 1 ∨ v = 2 ∨ v = 3 ∨ v = 4) with rfl | rfl | rfl | rfl | rfl
  · exact wk9_0_1_0_0_1_0
  · exact wk9_0_1_0_0_1_1
  · exact wk9_0_1_0_0_1_2
  · exact wk9_0_1_0_0_1_3
  · exact wk9_0_1_0_0_1_4)
theorem wk9_0_1_0_0_2_0_0 : wk 9 2 8 3 (aw (aw (aw (aw (aw (aw (aw c0 1 0) 2 1) 3 0) 4 0) 5 2) 6 0) 7 0) = true := by decide +kernel
theorem wk9_0_1_0_0_2_0_1 : wk 9 2 8 4 (aw (aw (aw (aw (aw (aw (aw c0 1 0) 2 1) 3 0) 4 0) 5 2) 6 0) 7 1) = true := by decide +kernel
theorem wk9_0_1_0_0_2_0_2 : wk 9 2 8 5 (aw (aw (aw (aw (aw (aw (aw c0 1 0) 2 1) 3 0) 4 0) 5 2) 6 0) 7 2) = true := by decide +kernel
theorem wk9_0_1_0_0_2_0_3 : wk 9 2 8 6 (aw (aw (aw (aw (aw (aw (aw c0 1 0) 2 1) 3 0) 4 0) 5 2) 6 0) 7 3) = true := by decide +kernel
theorem wk9_0_1_0_0_2_0_4 : wk 9 2 8 7 (aw (aw (aw (aw (aw (aw (aw c0 1 0) 2 1) 3 0) 4 0) 5 2) 6 0) 7 4) = true := by decide +kernel
theorem wk9_0_1_0_0_2_0 : wk 9 3 7 3 (aw (aw (aw (aw (aw (aw c0 1 0) 2 1) 3 0) 4 0) 5 2) 6 0) = true := wk_c (fun v hv => by
  rcases (by omega : v = 0 ∨ v = 1 ∨ v = 2 ∨ v = 3 ∨ v = 4) with rfl | rfl | rfl | rfl | rfl
  · exact wk9_0_1_0_0_2_0_0
  · exact wk9_0_1_0_0_2_0_1
  · exact wk9_0_1_0_0_2_0_2
  · exact wk9_0_1_0_0_2_0_3
  · exact wk9_0_1_0_0_2_0_4)
theorem wk9_0_1_0_0_2_1_0 : wk 9 2 8 4 (aw (aw (aw (aw (aw (aw (aw c0 1 0) 2 1) 3 0) 4 0) 5 2) 6 1) 7 0) = true := by decide +kernel
theorem wk9_0_1_0_0_2_1_1 : wk 9 2 8 5 (aw (aw (aw (aw (aw (aw (aw c0 1 0) 2 1) 3 0) 4 0) 5 2) 6 1) 7 1) = true := by decide +kernel
theorem wk9_0_1_0_0_2_1_2 : wk 9 2 8 6 (aw (aw (aw (aw (aw (aw (aw c0 1 0) 2 1) 3 0) 4 0) 5 2) 6 1) 7 2) = true := by decide +kernel
theorem wk9_0_1_0_0_2_1_3 : wk 9 2 8 7 (aw (aw (aw (aw (aw (aw (aw c0 1 0) 2 1) 3 0) 4 0) 5 2) 6 1) 7 3) = true := by decide +kernel
theorem wk9_0_1_0_0_2_1 : wk 9 3 7 4 (aw (aw (aw (aw (aw (aw c0 1 0) 2 1) 3 0) 4 0) 5 2) 6 1) = true := wk_c (fun v hv => by
  rcases (by omega : v = 0 ∨ v = 1 ∨ v = 2 ∨ v = 3) with rfl | rfl | rfl | rfl
  · exact wk9_0_1_0_0_2_1_0
  · exact wk9_0_1_0_0_2_1_1
  · exact wk9_0_1_0_0_2_1_2
  · exact wk9_0_1_0_0_2_1_3)
theorem wk9_0_1_0_0_2_2_0 : wk 9 2 8 5 (aw (aw (aw (aw (aw (aw (aw c0 1 0) 2 1) 3 0) 4 0) 5 2) 6 2) 7 0) = true := by decide +kernel
theorem wk9_0_1_0_0_2_2_1 : wk 9 2 8 6 (aw (aw (aw (aw (aw (aw (aw c0 1 0) 2 1) 3 0) 4 0) 5 2) 6 2) 7 1) = true := by decide +kernel
theorem wk9_0_1_0_0_2_2_2 : wk 9 2 8 7 (aw (aw (aw (aw (aw (aw (aw c0 1 0) 2 1) 3 0) 4 0) 5 2) 6 2) 7 2) = true := by decide +kernel
theorem wk9_0_1_0_0_2_2 : wk 9 3 7 5 (aw (aw (aw (aw (aw (aw c0 1 0) 2 1) 3 0) 4 0) 5 2) 6 2) = true := wk_c (fun v hv => by
  rcases (by omega : v = 0 ∨ v = 1 ∨ v = 2) with rfl | rfl | rfl
  · exact wk9_0_1_0_0_2_2_0
  · exact wk9_0_1_0_0_2_2_1
  · exact wk9_0_1_0_0_2_2_2)
theorem wk9_0_1_0_0_2_3_0 : wk 9 2 8 6 (aw (aw (aw (aw (aw (aw (aw c0 1 0) 2 1) 3 0) 4 0) 5 2) 6 3) 7 0) = true := by decide +kernel
theorem wk9_0_1_0_0_2_3_1 : wk 9 2 8 7 (aw (aw (aw (aw (aw (aw (aw c0 1 0) 2 1) 3 0) 4 0) 5 2) 6 3) 7 1) = true := by decide +kernel
theorem wk9_0_1_0_0_2_3 : wk 9 3 7 6 (aw (aw (aw (aw (aw (aw c0 1 0) 2 1) 3 0) 4 0) 5 2) 6 3) = true := wk_c (fun v hv => by
  rcases (by omega : v = 0 ∨ v = 1) with rfl | rfl
  · exact wk9_0_1_0_0_2_3_0
  · exact wk9_0_1_0_0_2_3_1)
theorem wk9_0_1_0_0_2 : wk 9 4 6 3 (aw (aw (aw (aw (aw c0 1 0) 2 1) 3 0) 4 0) 5 2) = true := wk_c (fun v hv => by
  rcases (by omega : v = 0 ∨ v = 1 ∨ v = 2 ∨ v = 3) with rfl | rfl | rfl | rfl
  · exact wk9_0_1_0_0_2_0
  · exact wk9_0_1_0_0_2_1
  · exact wk9_0_1_0_0_2_2
  · exact wk9_0_1_0_0_2_3)
theorem wk9_0_1_0_0_3_0_0 : wk 9 2 8 4 (aw (aw (aw (aw (aw (aw (aw c0 1 0) 2 1) 3 0) 4 0) 5 3) 6 0) 7 0) = true := by decide +kernel
theorem wk9_0_1_0_0_3_0_1 : wk 9 2 8 5 (aw (aw (aw (aw (aw (aw (aw c0 1 0) 2 1) 3 0) 4 0) 5 3) 6 0) 7 1) = true := by decide +kernel
theorem wk9_0_1_0_0_3_0_2 : wk 9 2 8 6 (aw (aw (aw (aw (aw (aw (aw c0 1 0) 2 1) 3 0) 4 0) 5 3) 6 0) 7 2) = true := by decide +kernel
theorem wk9_0_1_0_0_3_0_3 : wk 9 2 8 7 (aw (aw (aw (aw (aw (aw (aw c0 1 0) 2 1) 3 0) 4 0) 5 3) 6 0) 7 3) = true := by decide +kernel
theorem wk9_0_1_0_0_3_0 : wk 9 3 7 4 (aw (aw (aw (aw (aw (aw c0 1 0) 2 1) 3 0) 4 0) 5 3) 6 0) = true := wk_c (fun v hv => by
  rcases (by omega : v = 0 ∨ v = 1 ∨ v = 2 ∨ v = 3) with rfl | rfl | rfl | rfl
  · exact wk9_0_1_0_0_3_0_0
  · exact wk9_0_1_0_0_3_0_1
  · exact wk9_0_1_0_0_3_0_2
  · exact wk9_0_1_0_0_3_0_3)
theorem wk9_0_1_0_0_3_1_0 : wk 9 2 8 5 (aw (aw (aw (aw (aw (aw (aw c0 1 0) 2 1) 3 0) 4 0) 5 3) 6 1) 7 0) = true := by decide +kernel
theorem wk9_0_1_0_0_3_1_1 : wk 9 2 8 6 (aw (aw (aw (aw (aw (aw (aw c0 1 0) 2 1) 3 0) 4 0) 5 3) 6 1) 7 1) = true := by decide +kernel
theorem wk9_0_1_0_0_3_1_2 : wk 9 2 8 7 (aw (aw (aw (aw (aw (aw (aw c0 1 0) 2 1) 3 0) 4 0) 5 3) 6 1) 7 2) = true := by decide +kernel
theorem wk9_0_1_0_0_3_1 : wk 9 3 7 5 (aw (aw (aw (aw (aw (aw c0 1 0) 2 1) 3 0) 4 0) 5 3) 6 1) = true := wk_c (fun v hv => by
  rcases (by omega : v = 0 ∨ v = 1 ∨ v = 2) with rfl | rfl | rfl
  · exact wk9_0_1_0_0_3_1_0
  · exact wk9_0_1_0_0_3_1_1
  · exact wk9_0_1_0_0_3_1_2)
theorem wk9_0_1_0_0_3_2_0 : wk 9 2 8 6 (aw (aw (aw (aw (aw (aw (aw c0 1 0) 2 1) 3 0) 4 0) 5 3) 6 2) 7 0) = true := by decide +kernel
theorem wk9_0_1_0_0_3_2_1 : wk 9 2 8 7 (aw (aw (aw (aw (aw (aw (aw c0 1 0) 2 1) 3 0) 4 0) 5 3) 6 2) 7 1) = true := by decide +kernel
theorem wk9_0_1_0_0_3_2 : wk 9 3 7 6 (aw (aw (aw (aw (aw (aw c0 1 0) 2 1) 3 0) 4 0) 5 3) 6 2) = true := wk_c (fun v hv => by
  rcases (by omega : v = 0 ∨ v = 1) with rfl | rfl
  · exact wk9_0_1_0_0_3_2_0
  · exact wk9_0_1_0_0_3_2_1)
theorem wk9_0_1_0_0_3 : wk 9 4 6 4 (aw (aw (aw (aw (aw c0 1 0) 2 1) 3 0) 4 0) 5 3) = true := wk_c (fun v hv => by
  rcases (by omega : v = 0 ∨ v = 1 ∨ v = 2) with rfl | rfl | rfl
  · exact wk9_0_1_0_0_3_0
  · exact wk9_0_1_0_0_3_1
  · exact wk9_0_1_0_0_3_2)
theorem wk9_0_1_0_0_4_0_0 : wk 9 2 8 5 (aw (aw (aw (aw (aw (aw (aw c0 1 0) 2 1) 3 0) 4 0) 5 4) 6 0) 7 0) = true := by decide +kernel
theorem wk9_0_1_0_0_4_0_1 : wk 9 2 8 6 (aw (aw (aw (aw (aw (aw (aw c0 1 0) 2 1) 3 0) 4 0) 5 4) 6 0) 7 1) = true := by decide +kernel
theorem wk9_0_1_0_0_4_0_2 : wk 9 2 8 7 (aw (aw (aw (aw (aw (aw (aw c0 1 0) 2 1) 3 0) 4 0) 5 4) 6 0) 7 2) = true := by decide +kernel
theorem wk9_0_1_0_0_4_0 : wk 9 3 7 5 (aw (aw (aw (aw (aw (aw c0 1 0) 2 1) 3 0) 4 0) 5 4) 6 0) = true := wk_c (fun v hv => by
  rcases (by omega : v = 0 ∨ v = 1 ∨ v = 2) with rfl | rfl | rfl
  · exact wk9_0_1_0_0_4_0_0
  · exact wk9_0_1_0_0_4_0_1
  · exact wk9_0_1_0_0_4_0_2)
theorem wk9_0_1_0_0_4_1_0 : wk 9 2 8 6 (aw (aw (aw (aw (aw (aw (aw c0 1 0) 2 1) 3 0) 4 0) 5 4) 6 1) 7 0) = true := by decide +kernel
theorem wk9_0_1_0_0_4_1_1 : wk 9 2 8 7 (aw (aw (aw (aw (aw (aw (aw c0 1 0) 2 1) 3 0) 4 0) 5 4) 6 1) 7 1) = true := by decide +kernel
theorem wk9_0_1_0_0_4_1 : wk 9 3 7 6 (aw (aw (aw (aw (aw (aw c0 1 0) 2 1) 3 0) 4 0) 5 4) 6 1) = true := wk_c (fun v hv => by
  rcases (by omega : v = 0 ∨ v = 1) with rfl | rfl
  · exact wk9_0_1_0_0_4_1_0
  · exact wk9_0_1_0_0_4_1_1)
theorem wk9_0_1_0_0_4 : wk 9 4 6 5 (aw (aw (aw (aw (aw c0 1 0) 2 1) 3 0) 4 0) 5 4) = true := wk_c (fun v hv => by
  rcases (by omega : v = 0 ∨ v = 1) with rfl | rfl
  · exact wk9_0_1_0_0_4_0
  · exact wk9_0_1_0_0_4_1)
theorem wk9_0_1_0_0 : wk 9 5 5 1 (aw (aw (aw (aw c0 1 0) 2 1) 3 0) 4 0) = true := wk_c (fun v hv => by
  rcases (by omega : v = 0 ∨ v = 1 ∨ v = 2 ∨ v = 3 ∨ v = 4) with rfl | rfl | rfl | rfl | rfl
  · exact wk9_0_1_0_0_0
  · exact wk9_0_1_0_0_1
  · exact wk9_0_1_0_0_2
  · exact wk9_0_1_0_0_3
  · exact wk9_0_1_0_0_4)
theorem wk9_0_1_0_1_0_0_0 : wk 9 2 8 2 (aw (aw (aw (aw (aw (aw (aw c0 1 0) 2 1) 3 0) 4 1) 5 0) 6 0) 7 0) = true := by decide +kernel
theorem wk9_0_1_0_1_0_0_1 : wk 9 2 8 3 (aw (aw (aw (aw (aw (aw (aw c0 1 0) 2 1) 3 0) 4 1) 5 0) 6 0) 7 1) = true := by decide +kernel
theorem wk9_0_1_0_1_0_0_2 : wk 9 2 8 4 (aw (aw (aw (aw (aw (aw (aw c0 1 0) 2 1) 3 0) 4 1) 5 0) 6 0) 7 2) = true := by decide +kernel
theorem wk9_0_1_0_1_0_0_3 : wk 9 2 8 5 (aw (aw (aw (aw (aw (aw (aw c0 1 0) 2 1) 3 0) 4 1) 5 0) 6 0) 7 3) = true := by decide +kernel
theorem wk9_0_1_0_1_0_0_4 : wk 9 2 8 6 (aw (aw (aw (aw (aw (aw (aw c0 1 0) 2 1) 3 0) 4 1) 5 0) 6 0) 7 4) = true := by decide +kernel
theorem wk9_0_1_0_1_0_0_5 : wk 9 2 8 7 (aw (aw (aw (aw (aw (aw (aw c0 1 0) 2 1) 3 0) 4 1) 5 0) 6 0) 7 5) = true := by decide +kernel
theorem wk9_0_1_0_1_0_0 : wk 9 3 7 2 (aw (aw (aw (aw (aw (aw c0 1 0) 2 1) 3 0) 4 1) 5 0) 6 0) = true := wk_c (fun v hv => by
  rcases (by omega : v = 0 ∨ v = 1 ∨ v = 2 ∨ v = 3 ∨ v = 4 ∨ v = 5) with rfl | rfl | rfl | rfl | rfl | rfl
  · exact wk9_0_1_0_1_0_0_0
  · exact wk9_0_1_0_1_0_0_1
  · exact wk9_0_1_0_1_0_0_2
  · exact wk9_0_1_0_1_0_0_3
  · exact wk9_0_1_0_1_0_0_4
  · exact wk9_0_1_0_1_0_0_5)
theorem wk9_0_1_0_1_0_1_0 : wk 9 2 8 3 (aw (aw (aw (aw (aw (aw (aw c0 1 0) 2 1) 3 0) 4 1) 5 0) 6 1) 7 0) = true := by decide +kernel
theorem wk9_0_1_0_1_0_1_1 : wk 9 2 8 4 (aw (aw (aw (aw (aw (aw (aw c0 1 0) 2 1) 3 0) 4 1) 5 0) 6 1) 7 1) = true := by decide +kernel
theorem wk9_0_1_0_1_0_1_2 : wk 9 2 8 5 (aw (aw (aw (aw (aw (aw (aw c0 1 0) 2 1) 3 0) 4 1) 5 0) 6 1) 7 2) = true := by decide +kernel
theorem wk9_0_1_0_1_0_1_3 : wk 9 2 8 6 (aw (aw (aw (aw (aw (aw (aw c0 1 0) 2 1) 3 0) 4 1) 5 0) 6 1) 7 3) = true := by decide +kernel
theorem wk9_0_1_0_1_0_1_4 : wk 9 2 8 7 (aw (aw (aw (aw (aw (aw (aw c0 1 0) 2 1) 3 0) 4 1) 5 0) 6 1) 7 4) = true := by decide +kernel
theorem wk9_0_1_0_1_0_1 : wk 9 3 7 3 (aw (aw (aw (aw (aw (aw c0 1 0) 2 1) 3 0) 4 1) 5 0) 6 1) = true := wk_c (fun v hv => by
  rcases (by omega : v = 0 ∨ v = 1 ∨ v = 2 ∨ v = 3 ∨ v = 4) with rfl | rfl | rfl | rfl | rfl
  · exact wk9_0_1_0_1_0_1_0
  · exact wk9_0_1_0_1_0_1_1
  · exact wk9_0_1_0_1_0_1_2
  · exact wk9_0_1_0_1_0_1_3
  · exact wk9_0_1_0_1_0_1_4)
theorem wk9_0_1_0_1_0_2_0 : wk 9 2 8 4 (aw (aw (aw (aw (aw (aw (aw c0 1 0) 2 1) 3 0) 4 1) 5 0) 6 2) 7 0) = true := by decide +kernel
theorem wk9_0_1_0_1_0_2_1 : wk 9 2 8 5 (aw (aw (aw (aw (aw (aw (aw c0 1 0) 2 1) 3 0) 4 1) 5 0) 6 2) 7 1) = true := by decide +kernel
theorem wk9_0_1_0_1_0_2_2 : wk 9 2 8 6 (aw (aw (aw (aw (aw (aw (aw c0 1 0) 2 1) 3 0) 4 1) 5 0) 6 2) 7 2) = true := by decide +kernel
theorem wk9_0_1_0_1_0_2_3 : wk 9 2 8 7 (aw (aw (aw (aw (aw (aw (aw c0 1 0) 2 1) 3 0) 4 1) 5 0) 6 2) 7 3) = true := by decide +kernel
theorem wk9_0_1_0_1_0_2 : wk 9 3 7 4 (aw (aw (aw (aw (aw (aw c0 1 0) 2 1) 3 0) 4 1) 5 0) 6 2) = true := wk_c (fun v hv => by
  rcases (by omega : v = 0 ∨ v = 1 ∨ v = 2 ∨ v = 3) with rfl | rfl | rfl | rfl
  · exact wk9_0_1_0_1_0_2_0
  · exact wk9_0_1_0_1_0_2_1
  · exact wk9_0_1_0_1_0_2_2
  · exact wk9_0_1_0_1_0_2_3)
theorem wk9_0_1_0_1_0_3_0 : wk 9 2 8 5 (aw (aw (aw (aw (aw (aw (aw c0 1 0) 2 1) 3 0) 4 1) 5 0) 6 3) 7 0) = true := by decide +kernel
theorem wk9_0_1_0_1_0_3_1 : wk 9 2 8 6 (aw (aw (aw (aw (aw (aw (aw c0 1 0) 2 1) 3 0) 4 1) 5 0) 6 3) 7 1) = true := by decide +kernel
theorem wk9_0_1_0_1_0_3_2 : wk 9 2 8 7 (aw (aw (aw (aw (aw (aw (aw c0 1 0) 2 1) 3 0) 4 1) 5 0) 6 3) 7 2) = true := by decide +kernel
theorem wk9_0_1_0_1_0_3 : wk 9 3 7 5 (aw (aw (aw (aw (aw (aw c0 1 0) 2 1) 3 0) 4 1) 5 0) 6 3) = true := wk_c (fun v hv => by
  rcases (by omega : v = 0 ∨ v = 1 ∨ v = 2) with rfl | rfl | rfl
  · exact wk9_0_1_0_1_0_3_0
  · exact wk9_0_1_0_1_0_3_1
  · exact wk9_0_1_0_1_0_3_2)
theorem wk9_0_1_0_1_0_4_0 : wk 9 2 8 6 (aw (aw (aw (aw (aw (aw (aw c0 1 0) 2 1) 3 0) 4 1) 5 0) 6 4) 7 0) = true := by decide +kernel
theorem wk9_0_1_0_1_0_4_1 : wk 9 2 8 7 (aw (aw (aw (aw (aw (aw (aw c0 1 0) 2 1) 3 0) 4 1) 5 0) 6 4) 7 1) = true := by decide +kernel
theorem wk9_0_1_0_1_0_4 : wk 9 3 7 6 (aw (aw (aw (aw (aw (aw c0 1 0) 2 1) 3 0) 4 1) 5 0) 6 4) = true := wk_c (fun v hv => by
  rcases (by omega : v = 0 ∨ v = 1) with rfl | rfl
  · exact wk9_0_1_0_1_0_4_0
  · exact wk9_0_1_0_1_0_4_1)
theorem wk9_0_1_0_1_0 : wk 9 4 6 2 (aw (aw (aw (aw (aw c0 1 0) 2 1) 3 0) 4 1) 5 0) = true := wk_c (fun v hv => by
  rcases (by omega : v = 0 ∨ v = 1 ∨ v = 2 ∨ v = 3 ∨ v = 4) with rfl | rfl | rfl | rfl | rfl
  · exact wk9_0_1_0_1_0_0
  · exact wk9_0_1_0_1_0_1
  · exact wk9_0_1_0_1_0_2
  · exact wk9_0_1_0_1_0_3
  · exact wk9_0_1_0_1_0_4)
theorem wk9_0_1_0_1_1_0_0 : wk 9 2 8 3 (aw (aw (aw (aw (aw (aw (aw c0 1 0) 2 1) 3 0) 4 1) 5 1) 6 0) 7 0) = true := by decide +kernel
theorem wk9_0_1_0_1_1_0_1 : wk 9 2 8 4 (aw (aw (aw (aw (aw (aw (aw c0 1 0) 2 1) 3 0) 4 1) 5 1) 6 0) 7 1) = true := by decide +kernel
theorem wk9_0_1_0_1_1_0_2 : wk 9 2 8 5 (aw (aw (aw (aw (aw (aw (aw c0 1 0) 2 1) 3 0) 4 1) 5 1) 6 0) 7 2) = true := by decide +kernel
theorem wk9_0_1_0_1_1_0_3 : wk 9 2 8 6 (aw (aw (aw (aw (aw (aw (aw c0 1 0) 2 1) 3 0) 4 1) 5 1) 6 0) 7 3) = true := by decide +kernel
theorem wk9_0_1_0_1_1_0_4 : wk 9 2 8 7 (aw (aw (aw (aw (aw (aw (aw c0 1 0) 2 1) 3 0) 4 1) 5 1) 6 0) 7 4) = true := by decide +kernel
theorem wk9_0_1_0_1_1_0 : wk 9 3 7 3 (aw (aw (aw (aw (aw (aw c0 1 0) 2 1) 3 0) 4 1) 5 1) 6 0) = true := wk_c (fun v hv => by
  rcases (by omega : v = 0 ∨ v = 1 ∨ v = 2 ∨ v = 3 ∨ v = 4) with rfl | rfl | rfl | rfl | rfl
  · exact wk9_0_1_0_1_1_0_0
  · exact wk9_0_1_0_1_1_0_1
  · exact wk9_0_1_0_1_1_0_2
  · exact wk9_0_1_0_1_1_0_3
  · exact wk9_0_1_0_1_1_0_4)
theorem wk9_0_1_0_1_1_1_0 : wk 9 2 8 4 (aw (aw (aw (aw (aw (aw (aw c0 1 0) 2 1) 3 0) 4 1) 5 1) 6 1) 7 0) = true := by decide +kernel
theorem wk9_0_1_0_1_1_1_1 : wk 9 2 8 5 (aw (aw (aw (aw (aw (aw (aw c0 1 0) 2 1) 3 0) 4 1) 5 1) 6 1) 7 1) = true := by decide +kernel
theorem wk9_0_1_0_1_1_1_2 : wk 9 2 8 6 (aw (aw (aw (aw (aw (aw (aw c0 1 0) 2 1) 3 0) 4 1) 5 1) 6 1) 7 2) = true := by decide +kernel
theorem wk9_0_1_0_1_1_1_3 : wk 9 2 8 7 (aw (aw (aw (aw (aw (aw (aw c0 1 0) 2 1) 3 0) 4 1) 5 1) 6 1) 7 3) = true := by decide +kernel
theorem wk9_0_1_0_1_1_1 : wk 9 3 7 4 (aw (aw (aw (aw (aw (aw c0 1 0) 2 1) 3 0) 4 1) 5 1) 6 1) = true := wk_c (fun v hv => by
  rcases (by omega : v = 0 ∨ v = 1 ∨ v = 2 ∨ v = 3) with rfl | rfl | rfl | rfl
  · exact wk9_0_1_0_1_1_1_0
  · exact wk9_0_1_0_1_1_1_1
  · exact wk9_0_1_0_1_1_1_2
  · exact wk9_0_1_0_1_1_1_3)
theorem wk9_0_1_0_1_1_2_0 : wk 9 2 8 5 (aw (aw (aw (aw (aw (aw (aw c0 1 0) 2 1) 3 0) 4 1) 5 1) 6 2) 7 0) = true := by decide +kernel
theorem wk9_0_1_0_1_1_2_1 : wk 9 2 8 6 (aw (aw (aw (aw (aw (aw (aw c0 1 0) 2 1) 3 0) 4 1) 5 1) 6 2) 7 1) = true := by decide +kernel
theorem wk9_0_1_0_1_1_2_2 : wk 9 2 8 7 (aw (aw (aw (aw (aw (aw (aw c0 1 0) 2 1) 3 0) 4 1) 5 1) 6 2) 7 2) = true := by decide +kernel
theorem wk9_0_1_0_1_1_2 : wk 9 3 7 5 (aw (aw (aw (aw (aw (aw c0 1 0) 2 1) 3 0) 4 1) 5 1) 6 2) = true := wk_c (fun v hv => by
  rcases (by omega : v = 0 ∨ v = 1 ∨ v = 2) with rfl | rfl | rfl
  · exact wk9_0_1_0_1_1_2_0
  · exact wk9_0_1_0_1_1_2_1
  · exact wk9_0_1_0_1_1_2_2)
theorem wk9_0_1_0_1_1_3_0 : wk 9 2 8 6 (aw (aw (aw (aw (aw (aw (aw c0 1 0) 2 1) 3 0) 4 1) 5 1) 6 3) 7 0) = true := by decide +kernel
theorem wk9_0_1_0_1_1_3_1 : wk 9 2 8 7 (aw (aw (aw (aw (aw (aw (aw c0 1 0) 2 1) 3 0) 4 1) 5 1) 6 3) 7 1) = true := by decide +kernel
theorem wk9_0_1_0_1_1_3 : wk 9 3 7 6 (aw (aw (aw (aw (aw (aw c0 1 0) 2 1) 3 0) 4 1) 5 1) 6 3) = true := wk_c (fun v hv => by
  rcases (by omega : v = 0 ∨ v = 1) with rfl | rfl
  · exact wk9_0_1_0_1_1_3_0
  · exact wk9_0_1_0_1_1_3_1)
theorem wk9_0_1_0_1_1 : wk 9 4 6 3 (aw (aw (aw (aw (aw c0 1 0) 2 1) 3 0) 4 1) 5 1) = true := wk_c (fun v hv => by
  rcases (by omega : v = 0 ∨ v = 1 ∨ v = 2 ∨ v = 3) with rfl | rfl | rfl | rfl
  · exact wk9_0_1_0_1_1_0
  · exact wk9_0_1_0_1_1_1
  · exact wk9_0_1_0_1_1_2
  · exact wk9_0_1_0_1_1_3)
theorem wk9_0_1_0_1_2_0_0 : wk 9 2 8 4 (aw (aw (aw (aw (aw (aw (aw c0 1 0) 2 1) 3 0) 4 1) 5 2) 6 0) 7 0) = true := by decide +kernel
theorem wk9_0_1_0_1_2_0_1 : wk 9 2 8 5 (aw (aw (aw (aw (aw (aw (aw c0 1 0) 2 1) 3 0) 4 1) 5 2) 6 0) 7 1) = true := by decide +kernel
theorem wk9_0_1_0_1_2_0_2 : wk 9 2 8 6 (aw (aw (aw (aw (aw (aw (aw c0 1 0) 2 1) 3 0) 4 1) 5 2) 6 0) 7 2) = true := by decide +kernel
theorem wk9_0_1_0_1_2_0_3 : wk 9 2 8 7 (aw (aw (aw (aw (aw (aw (aw c0 1 0) 2 1) 3 0) 4 1) 5 2) 6 0) 7 3) = true := by decide +kernel
theorem wk9_0_1_0_1_2_0 : wk 9 3 7 4 (aw (aw (aw (aw (aw (aw c0 1 0) 2 1) 3 0) 4 1) 5 2) 6 0) = true := wk_c (fun v hv => by
  rcases (by omega : v = 0 ∨ v = 1 ∨ v = 2 ∨ v = 3) with rfl | rfl | rfl | rfl
  · exact wk9_0_1_0_1_2_0_0
  · exact wk9_0_1_0_1_2_0_1
  · exact wk9_0_1_0_1_2_0_2
  · exact wk9_0_1_0_1_2_0_3)
theorem wk9_0_1_0_1_2_1_0 : wk 9 2 8 5 (aw (aw (aw (aw (aw (aw (aw c0 1 0) 2 1) 3 0) 4 1) 5 2) 6 1) 7 0) = true := by decide +kernel
theorem wk9_0_1_0_1_2_1_1 : wk 9 2 8 6 (aw (aw (aw (aw (aw (aw (aw c0 1 0) 2 1) 3 0) 4 1) 5 2) 6 1) 7 1) = true := by decide +kernel
theorem wk9_0_1_0_1_2_1_2 : wk 9 2 8 7 (aw (aw (aw (aw (aw (aw (aw c0 1 0) 2 1) 3 0) 4 1) 5 2) 6 1) 7 2) = true := by decide +kernel
theorem wk9_0_1_0_1_2_1 : wk 9 3 7 5 (aw (aw (aw (aw (aw (aw c0 1 0) 2 1) 3 0) 4 1) 5 2) 6 1) = true := wk_c (fun v hv => by
  rcases (by omega : v = 0 ∨ v = 1 ∨ v = 2) with rfl | rfl | rfl
  · exact wk9_0_1_0_1_2_1_0
  · exact wk9_0_1_0_1_2_1_1
  · exact wk9_0_1_0_1_2_1_2)
theorem wk9_0_1_0_1_2_2_0 : wk 9 2 8 6 (aw (aw (aw (aw (aw (aw (aw c0 1 0) 2 1) 3 0) 4 1) 5 2) 6 2) 7 0) = true := by decide +kernel
theorem wk9_0_1_0_1_2_2_1 : wk 9 2 8 7 (aw (aw (aw (aw (aw (aw (aw c0 1 0) 2 1) 3 0) 4 1) 5 2) 6 2) 7 1) = true := by decide +kernel
theorem wk9_0_1_0_1_2_2 : wk 9 3 7 6 (aw (aw (aw (aw (aw (aw c0 1 0) 2 1) 3 0) 4 1) 5 2) 6 2) = true := wk_c (fun v hv => by
  rcases (by omega : v = 0 ∨ v = 1) with rfl | rfl
  · exact wk9_0_1_0_1_2_2_0
  · exact wk9_0_1_0_1_2_2_1)
theorem wk9_0_1_0_1_2 : wk 9 4 6 4 (aw (aw (aw (aw (aw c0 1 0) 2 1) 3 0) 4 1) 5 2) = true := wk_c (fun v hv => by
  rcases (by omega : v = 0 ∨ v = 1 ∨ v = 2) with rfl | rfl | rfl
  · exact wk9_0_1_0_1_2_0
  · exact wk9_0_1_0_1_2_1
  · exact wk9_0_1_0_1_2_2)
theorem wk9_0_1_0_1_3_0_0 : wk 9 2 8 5 (aw (aw (aw (aw (aw (aw (aw c0 1 0) 2 1) 3 0) 4 1) 5 3) 6 0) 7 0) = true := by decide +kernel
theorem wk9_0_1_0_1_3_0_1 : wk 9 2 8 6 (aw (aw (aw (aw (aw (aw (aw c0 1 0) 2 1) 3 0) 4 1) 5 3) 6 0) 7 1) = true := by decide +kernel
theorem wk9_0_1_0_1_3_0_2 : wk 9 2 8 7 (aw (aw (aw (aw (aw (aw (aw c0 1 0) 2 1) 3 0) 4 1) 5 3) 6 0) 7 2) = true := by decide +kernel
theorem wk9_0_1_0_1_3_0 : wk 9 3 7 5 (aw (aw (aw (aw (aw (aw c0 1 0) 2 1) 3 0) 4 1) 5 3) 6 0) = true := wk_c (fun v hv => by
  rcases (by omega : v = 0 ∨ v = 1 ∨ v = 2) with rfl | rfl | rfl
  · exact wk9_0_1_0_1_3_0_0
  · exact wk9_0_1_0_1_3_0_1
  · exact wk9_0_1_0_1_3_0_2)
theorem wk9_0_1_0_1_3_1_0 : wk 9 2 8 6 (aw (aw (aw (aw (aw (aw (aw c0 1 0) 2 1) 3 0) 4 1) 5 3) 6 1) 7 0) = true := by decide +kernel
theorem wk9_0_1_0_1_3_1_1 : wk 9 2 8 7 (aw (aw (aw (aw (aw (aw (aw c0 1 0) 2 1) 3 0) 4 1) 5 3) 6 1) 7 1) = true := by decide +kernel
theorem wk9_0_1_0_1_3_1 : wk 9 3 7 6 (aw (aw (aw (aw (aw (aw c0 1 0) 2 1) 3 0) 4 1) 5 3) 6 1) = true := wk_c (fun v hv => by
  rcases (by omega : v = 0 ∨ v = 1) with rfl | rfl
  · exact wk9_0_1_0_1_3_1_0
  · exact wk9_0_1_0_1_3_1_1)
theorem wk9_0_1_0_1_3 : wk 9 4 6 5 (aw (aw (aw (aw (aw c0 1 0) 2 1) 3 0) 4 1) 5 3) = true := wk_c (fun v hv => by
  rcases (by omega : v = 0 ∨ v = 1) with rfl | rfl
  · exact wk9_0_1_0_1_3_0
  · exact wk9_0_1_0_1_3_1)
theorem wk9_0_1_0_1 : wk 9 5 5 2 (aw (aw (aw (aw c0 1 0) 2 1) 3 0) 4 1) = true := wk_c (fun v hv => by
  rcases (by omega : v = 0 ∨ v = 1 ∨ v = 2 ∨ v = 3) with rfl | rfl | rfl | rfl
  · exact wk9_0_1_0_1_0
  · exact wk9_0_1_0_1_1
  · exact wk9_0_1_0_1_2
  · exact wk9_0_1_0_1_3)
theorem wk9_0_1_0_2_0_0_0 : wk 9 2 8 3 (aw (aw (aw (aw (aw (aw (aw c0 1 0) 2 1) 3 0) 4 2) 5 0) 6 0) 7 0) = true := by decide +kernel
theorem wk9_0_1_0_2_0_0_1 : wk 9 2 8 4 (aw (aw (aw (aw (aw (aw (aw c0 1 0) 2 1) 3 0) 4 2) 5 0) 6 0) 7 1) = true := by decide +kernel
theorem wk9_0_1_0_2_0_0_2 : wk 9 2 8 5 (aw (aw (aw (aw (aw (aw (aw c0 1 0) 2 1) 3 0) 4 2) 5 0) 6 0) 7 2) = true := by decide +kernel
theorem wk9_0_1_0_2_0_0_3 : wk 9 2 8 6 (aw (aw (aw (aw (aw (aw (aw c0 1 0) 2 1) 3 0) 4 2) 5 0) 6 0) 7 3) = true := by decide +kernel
theorem wk9_0_1_0_2_0_0_4 : wk 9 2 8 7 (aw (aw (aw (aw (aw (aw (aw c0 1 0) 2 1) 3 0) 4 2) 5 0) 6 0) 7 4) = true := by decide +kernel
theorem wk9_0_1_0_2_0_0 : wk 9 3 7 3 (aw (aw (aw (aw (aw (aw c0 1 0) 2 1) 3 0) 4 2) 5 0) 6 0) = true := wk_c (fun v hv => by
  rcases (by omega : v = 0 ∨ v = 1 ∨ v = 2 ∨ v = 3 ∨ v = 4) with rfl | rfl | rfl | rfl | rfl
  · exact wk9_0_1_0_2_0_0_0
  · exact wk9_0_1_0_2_0_0_1
  · exact wk9_0_1_0_2_0_0_2
  · exact wk9_0_1_0_2_0_0_3
  · exact wk9_0_1_0_2_0_0_4)
theorem wk9_0_1_0_2_0_1_0 : wk 9 2 8 4 (aw (aw (aw (aw (aw (aw (aw c0 1 0) 2 1) 3 0) 4 2) 5 0) 6 1) 7 0) = true := by decide +kernel
theorem wk9_0_1_0_2_0_1_1 : wk 9 2 8 5 (aw (aw (aw (aw (aw (aw (aw c0 1 0) 2 1) 3 0) 4 2) 5 0) 6 1) 7 1) = true := by decide +kernel
theorem wk9_0_1_0_2_0_1_2 : wk 9 2 8 6 (aw (aw (aw (aw (aw (aw (aw c0 1 0) 2 1) 3 0) 4 2) 5 0) 6 1) 7 2) = true := by decide +kernel
theorem wk9_0_1_0_2_0_1_3 : wk 9 2 8 7 (aw (aw (aw (aw (aw (aw (aw c0 1 0) 2 1) 3 0) 4 2) 5 0) 6 1) 7 3) = true := by decide +kernel
theorem wk9_0_1_0_2_0_1 : wk 9 3 7 4 (aw (aw (aw (aw (aw (aw c0 1 0) 2 1) 3 0) 4 2) 5 0) 6 1) = true := wk_c (fun v hv => by
  rcases (by omega : v = 0 ∨ v = 1 ∨ v = 2 ∨ v = 3) with rfl | rfl | rfl | rfl
  · exact wk9_0_1_0_2_0_1_0
  · exact wk9_0_1_0_2_0_1_1
  · exact wk9_0_1_0_2_0_1_2
  · exact wk9_0_1_0_2_0_1_3)
theorem wk9_0_1_0_2_0_2_0 : wk 9 2 8 5 (aw (aw (aw (aw (aw (aw (aw c0 1 0) 2 1) 3 0) 4 2) 5 0) 6 2) 7 0) = true := by decide +kernel
theorem wk9_0_1_0_2_0_2_1 : wk 9 2 8 6 (aw (aw (aw (aw (aw (aw (aw c0 1 0) 2 1) 3 0) 4 2) 5 0) 6 2) 7 1) = true := by decide +kernel
theorem wk9_0_1_0_2_0_2_2 : wk 9 2 8 7 (aw (aw (aw (aw (aw (aw (aw c0 1 0) 2 1) 3 0) 4 2) 5 0) 6 2) 7 2) = true := by decide +kernel
theorem wk9_0_1_0_2_0_2 : wk 9 3 7 5 (aw (aw (aw (aw (aw (aw c0 1 0) 2 1) 3 0) 4 2) 5 0) 6 2) = true := wk_c (fun v hv => by
  rcases (by omega : v = 0 ∨ v = 1 ∨ v = 2) with rfl | rfl | rfl
  · exact wk9_0_1_0_2_0_2_0
  · exact wk9_0_1_0_2_0_2_1
  · exact wk9_0_1_0_2_0_2_2)
theorem wk9_0_1_0_2_0_3_0 : wk 9 2 8 6 (aw (aw (aw (aw (aw (aw (aw c0 1 0) 2 1) 3 0) 4 2) 5 0) 6 3) 7 0) = true := by decide +kernel
theorem wk9_0_1_0_2_0_3_1 : wk 9 2 8 7 (aw (aw (aw (aw (aw (aw (aw c0 1 0) 2 1) 3 0) 4 2) 5 0) 6 3) 7 1) = true := by decide +kernel
theorem wk9_0_1_0_2_0_3 : wk 9 3 7 6 (aw (aw (aw (aw (aw (aw c0 1 0) 2 1) 3 0) 4 2) 5 0) 6 3) = true := wk_c (fun v hv => by
  rcases (by omega : v = 0 ∨ v = 1) with rfl | rfl
  · exact wk9_0_1_0_2_0_3_0
  · exact wk9_0_1_0_2_0_3_1)
theorem wk9_0_1_0_2_0 : wk 9 4 6 3 (aw (aw (aw (aw (aw c0 1 0) 2 1) 3 0) 4 2) 5 0) = true := wk_c (fun v hv => by
  rcases (by omega : v = 0 ∨ v = 1 ∨ v = 2 ∨ v = 3) with rfl | rfl | rfl | rfl
  · exact wk9_0_1_0_2_0_0
  · exact wk9_0_1_0_2_0_1
  · exact wk9_0_1_0_2_0_2
  · exact wk9_0_1_0_2_0_3)
theorem wk9_0_1_0_2_1_0_0 : wk 9 2 8 4 (aw (aw (aw (aw (aw (aw (aw c0 1 0) 2 1) 3 0) 4 2) 5 1) 6 0) 7 0) = true := by decide +kernel
theorem wk9_0_1_0_2_1_0_1 : wk 9 2 8 5 (aw (aw (aw (aw (aw (aw (aw c0 1 0) 2 1) 3 0) 4 2) 5 1) 6 0) 7 1) = true := by decide +kernel
theorem wk9_0_1_0_2_1_0_2 : wk 9 2 8 6 (aw (aw (aw (aw (aw (aw (aw c0 1 0) 2 1) 3 0) 4 2) 5 1) 6 0) 7 2) = true := by decide +kernel
theorem wk9_0_1_0_2_1_0_3 : wk 9 2 8 7 (aw (aw (aw (aw (aw (aw (aw c0 1 0) 2 1) 3 0) 4 2) 5 1) 6 0) 7 3) = true := by decide +kernel
theorem wk9_0_1_0_2_1_0 : wk 9 3 7 4 (aw (aw (aw (aw (aw (aw c0 1 0) 2 1) 3 0) 4 2) 5 1) 6 0) = true := wk_c (fun v hv => by
  rcases (by omega : v = 0 ∨ v = 1 ∨ v = 2 ∨ v = 3) with rfl | rfl | rfl | rfl
  · exact wk9_0_1_0_2_1_0_0
  · exact wk9_0_1_0_2_1_0_1
  · exact wk9_0_1_0_2_1_0_2
  · exact wk9_0_1_0_2_1_0_3)
theorem wk9_0_1_0_2_1_1_0 : wk 9 2 8 5 (aw (aw (aw (aw (aw (aw (aw c0 1 0) 2 1) 3 0) 4 2) 5 1) 6 1) 7 0) = true := by decide +kernel
theorem wk9_0_1_0_2_1_1_1 : wk 9 2 8 6 (aw (aw (aw (aw (aw (aw (aw c0 1 0) 2 1) 3 0) 4 2) 5 1) 6 1) 7 1) = true := by decide +kernel
theorem wk9_0_1_0_2_1_1_2 : wk 9 2 8 7 (aw (aw (aw (aw (aw (aw (aw c0 1 0) 2 1) 3 0) 4 2) 5 1) 6 1) 7 2) = true := by decide +kernel
theorem wk9_0_1_0_2_1_1 : wk 9 3 7 5 (aw (aw (aw (aw (aw (aw c0 1 0) 2 1) 3 0) 4 2) 5 1) 6 1) = true := wk_c (fun v hv => by
  rcases (by omega : v = 0 ∨ v = 1 ∨ v = 2) with rfl | rfl | rfl
  · exact wk9_0_1_0_2_1_1_0
  · exact wk9_0_1_0_2_1_1_1
  · exact wk9_0_1_0_2_1_1_2)
theorem wk9_0_1_0_2_1_2_0 : wk 9 2 8 6 (aw (aw (aw (aw (aw (aw (aw c0 1 0) 2 1) 3 0) 4 2) 5 1) 6 2) 7 0) = true := by decide +kernel
theorem wk9_0_1_0_2_1_2_1 : wk 9 2 8 7 (aw (aw (aw (aw (aw (aw (aw c0 1 0) 2 1) 3 0) 4 2) 5 1) 6 2) 7 1) = true := by decide +kernel
theorem wk9_0_1_0_2_1_2 : wk 9 3 7 6 (aw (aw (aw (aw (aw (aw c0 1 0) 2 1) 3 0) 4 2) 5 1) 6 2) = true := wk_c (fun v hv => by
  rcases (by omega : v = 0 ∨ v = 1) with rfl | rfl
  · exact wk9_0_1_0_2_1_2_0
  · exact wk9_0_1_0_2_1_2_1)
theorem wk9_0_1_0_2_1 : wk 9 4 6 4 (aw (aw (aw (aw (aw c0 1 0) 2 1) 3 0) 4 2) 5 1) = true := wk_c (fun v hv => by
  rcases (by omega : v = 0 ∨ v = 1 ∨ v = 2) with rfl | rfl | rfl
  · exact wk9_0_1_0_2_1_0
  · exact wk9_0_1_0_2_1_1
  · exact wk9_0_1_0_2_1_2)
theorem wk9_0_1_0_2_2_0_0 : wk 9 2 8 5 (aw (aw (aw (aw (aw (aw (aw c0 1 0) 2 1) 3 0) 4 2) 5 2) 6 0) 7 0) = true := by decide +kernel
theorem wk9_0_1_0_2_2_0_1 : wk 9 2 8 6 (aw (aw (aw (aw (aw (aw (aw c0 1 0) 2 1) 3 0) 4 2) 5 2) 6 0) 7 1) = true := by decide +kernel
theorem wk9_0_1_0_2_2_0_2 : wk 9 2 8 7 (aw (aw (aw (aw (aw (aw (aw c0 1 0) 2 1) 3 0) 4 2) 5 2) 6 0) 7 2) = true := by decide +kernel
theorem wk9_0_1_0_2_2_0 : wk 9 3 7 5 (aw (aw (aw (aw (aw (aw c0 1 0) 2 1) 3 0) 4 2) 5 2) 6 0) = true := wk_c (fun v hv => by
  rcases (by omega : v = 0 ∨ v = 1 ∨ v = 2) with rfl | rfl | rfl
  · exact wk9_0_1_0_2_2_0_0
  · exact wk9_0_1_0_2_2_0_1
  · exact wk9_0_1_0_2_2_0_2)
theorem wk9_0_1_0_2_2_1_0 : wk 9 2 8 6 (aw (aw (aw (aw (aw (aw (aw c0 1 0) 2 1) 3 0) 4 2) 5 2) 6 1) 7 0) = true := by decide +kernel
theorem wk9_0_1_0_2_2_1_1 : wk 9 2 8 7 (aw (aw (aw (aw (aw (aw (aw c0 1 0) 2 1) 3 0) 4 2) 5 2) 6 1) 7 1) = true := by decide +kernel
theorem wk9_0_1_0_2_2_1 : wk 9 3 7 6 (aw (aw (aw (aw (aw (aw c0 1 0) 2 1) 3 0) 4 2) 5 2) 6 1) = true := wk_c (fun v hv => by
  rcases (by omega : v = 0 ∨ v = 1) with rfl | rfl
  · exact wk9_0_1_0_2_2_1_0
  · exact wk9_0_1_0_2_2_1_1)
theorem wk9_0_1_0_2_2 : wk 9 4 6 5 (aw (aw (aw (aw (aw c0 1 0) 2 1) 3 0) 4 2) 5 2) = true := wk_c (fun v hv => by
  rcases (by omega : v = 0 ∨ v = 1) with rfl | rfl
  · exact wk9_0_1_0_2_2_0
  · exact wk9_0_1_0_2_2_1)
theorem wk9_0_1_0_2 : wk 9 5 5 3 (aw (aw (aw (aw c0 1 0) 2 1) 3 0) 4 2) = true := wk_c (fun v hv => by
  rcases (by omega : v = 0 ∨ v = 1 ∨ v = 2) with rfl | rfl | rfl
  · exact wk9_0_1_0_2_0
  · exact wk9_0_1_0_2_1
  · exact wk9_0_1_0_2_2)
theorem wk9_0_1_0_3_0_0_0 : wk 9 2 8 4 (aw (aw (aw (aw (aw (aw (aw c0 1 0) 2 1) 3 0) 4 3) 5 0) 6 0) 7 0) = true := by decide +kernel
theorem wk9_0_1_0_3_0_0_1 : wk 9 2 8 5 (aw (aw (aw (aw (aw (aw (aw c0 1 0) 2 1) 3 0) 4 3) 5 0) 6 0) 7 1) = true := by decide +kernel
theorem wk9_0_1_0_3_0_0_2 : wk 9 2 8 6 (aw (aw (aw (aw (aw (aw (aw c0 1 0) 2 1) 3 0) 4 3) 5 0) 6 0) 7 2) = true := by decide +kernel
theorem wk9_0_1_0_3_0_0_3 : wk 9 2 8 7 (aw (aw (aw (aw (aw (aw (aw c0 1 0) 2 1) 3 0) 4 3) 5 0) 6 0) 7 3) = true := by decide +kernel
theorem wk9_0_1_0_3_0_0 : wk 9 3 7 4 (aw (aw (aw (aw (aw (aw c0 1 0) 2 1) 3 0) 4 3) 5 0) 6 0) = true := wk_c (fun v hv => by
  rcases (by omega : v = 0 ∨ v = 1 ∨ v = 2 ∨ v = 3) with rfl | rfl | rfl | rfl
  · exact wk9_0_1_0_3_0_0_0
  · exact wk9_0_1_0_3_0_0_1
  · exact wk9_0_1_0_3_0_0_2
  · exact wk9_0_1_0_3_0_0_3)
theorem wk9_0_1_0_3_0_1_0 : wk 9 2 8 5 (aw (aw (aw (aw (aw (aw (aw c0 1 0) 2 1) 3 0) 4 3) 5 0) 6 1) 7 0) = true := by decide +kernel
theorem wk9_0_1_0_3_0_1_1 : wk 9 2 8 6 (aw (aw (aw (aw (aw (aw (aw c0 1 0) 2 1) 3 0) 4 3) 5 0) 6 1) 7 1) = true := by decide +kernel
theorem wk9_0_1_0_3_0_1_2 : wk 9 2 8 7 (aw (aw (aw (aw (aw (aw (aw c0 1 0) 2 1) 3 0) 4 3) 5 0) 6 1) 7 2) = true := by decide +kernel
theorem wk9_0_1_0_3_0_1 : wk 9 3 7 5 (aw (aw (aw (aw (aw (aw c0 1 0) 2 1) 3 0) 4 3) 5 0) 6 1) = true := wk_c (fun v hv => by
  rcases (by omega : v = 0 ∨ v = 1 ∨ v = 2) with rfl | rfl | rfl
  · exact wk9_0_1_0_3_0_1_0
  · exact wk9_0_1_0_3_0_1_1
  · exact wk9_0_1_0_3_0_1_2)
theorem wk9_0_1_0_3_0_2_0 : wk 9 2 8 6 (aw (aw (aw (aw (aw (aw (aw c0 1 0) 2 1) 3 0) 4 3) 5 0) 6 2) 7 0) = true := by decide +kernel
theorem wk9_0_1_0_3_0_2_1 : wk 9 2 8 7 (aw (aw (aw (aw (aw (aw (aw c0 1 0) 2 1) 3 0) 4 3) 5 0) 6 2) 7 1) = true := by decide +kernel
theorem wk9_0_1_0_3_0_2 : wk 9 3 7 6 (aw (aw (aw (aw (aw (aw c0 1 0) 2 1) 3 0) 4 3) 5 0) 6 2) = true := wk_c (fun v hv => by
  rcases (by omega : v = 0 ∨ v = 1) with rfl | rfl
  · exact wk9_0_1_0_3_0_2_0
  · exact wk9_0_1_0_3_0_2_1)
theorem wk9_0_1_0_3_0 : wk 9 4 6 4 (aw (aw (aw (aw (aw c0 1 0) 2 1) 3 0) 4 3) 5 0) = true := wk_c (fun v hv => by
  rcases (by omega : v = 0 ∨ v = 1 ∨ v = 2) with rfl | rfl | rfl
  · exact wk9_0_1_0_3_0_0
  · exact wk9_0_1_0_3_0_1
  · exact wk9_0_1_0_3_0_2)
theorem wk9_0_1_0_3_1_0_0 : wk 9 2 8 5 (aw (aw (aw (aw (aw (aw (aw c0 1 0) 2 1) 3 0) 4 3) 5 1) 6 0) 7 0) = true := by decide +kernel
theorem wk9_0_1_0_3_1_0_1 : wk 9 2 8 6 (aw (aw (aw (aw (aw (aw (aw c0 1 0) 2 1) 3 0) 4 3) 5 1) 6 0) 7 1) = true := by decide +kernel
theorem wk9_0_1_0_3_1_0_2 : wk 9 2 8 7 (aw (aw (aw (aw (aw (aw (aw c0 1 0) 2 1) 3 0) 4 3) 5 1) 6 0) 7 2) = true := by decide +kernel
theorem wk9_0_1_0_3_1_0 : wk 9 3 7 5 (aw (aw (aw (aw (aw (aw c0 1 0) 2 1) 3 0) 4 3) 5 1) 6 0) = true := wk_c (fun v hv => by
  rcases (by omega : v = 0 ∨ v = 1 ∨ v = 2) with rfl | rfl | rfl
  · exact wk9_0_1_0_3_1_0_0
  · exact wk9_0_1_0_3_1_0_1
  · exact wk9_0_1_0_3_1_0_2)
theorem wk9_0_1_0_3_1_1_0 : wk 9 2 8 6 (aw (aw (aw (aw (aw (aw (aw c0 1 0) 2 1) 3 0) 4 3) 5 1) 6 1) 7 0) = true := by decide +kernel
theorem wk9_0_1_0_3_1_1_1 : wk 9 2 8 7 (aw (aw (aw (aw (aw (aw (aw c0 1 0) 2 1) 3 0) 4 3) 5 1) 6 1) 7 1) = true := by decide +kernel
theorem wk9_0_1_0_3_1_1 : wk 9 3 7 6 (aw (aw (aw (aw (aw (aw c0 1 0) 2 1) 3 0) 4 3) 5 1) 6 1) = true := wk_c (fun v hv => by
  rcases (by omega : v = 0 ∨ v = 1) with rfl | rfl
  · exact wk9_0_1_0_3_1_1_0
  · exact wk9_0_1_0_3_1_1_1)
theorem wk9_0_1_0_3_1 : wk 9 4 6 5 (aw (aw (aw (aw (aw c0 1 0) 2 1) 3 0) 4 3) 5 1) = true := wk_c (fun v hv => by
  rcases (by omega : v = 0 ∨ v = 1) with rfl | rfl
  · exact wk9_0_1_0_3_1_0
  · exact wk9_0_1_0_3_1_1)
theorem wk9_0_1_0_3 : wk 9 5 5 4 (aw (aw (aw (aw c0 1 0) 2 1) 3 0) 4 3) = true := wk_c (fun v hv => by
  rcases (by omega : v = 0 ∨ v = 1) with rfl | rfl
  · exact wk9_0_1_0_3_0
  · exact wk9_0_1_0_3_1)
theorem wk9_0_1_0 : wk 9 6 4 1 (aw (aw (aw c0 1 0) 2 1) 3 0) = true := wk_c (fun v hv => by
  rcases (by omega : v = 0 ∨ v = 1 ∨ v = 2 ∨ v = 3) with rfl | rfl | rfl | rfl
  · exact wk9_0_1_0_0
  · exact wk9_0_1_0_1
  · exact wk9_0_1_0_2
  · exact wk9_0_1_0_3)
theorem wk9_0_1_1_0_0_0_0 : wk 9 2 8 2 (aw (aw (aw (aw (aw (aw (aw c0 1 0) 2 1) 3 1) 4 0) 5 0) 6 0) 7 0) = true := by decide +kernel
theorem wk9_0_1_1_0_0_0_1 : wk 9 2 8 3 (aw (aw (aw (aw (aw (aw (aw c0 1 0) 2 1) 3 1) 4 0) 5 0) 6 0) 7 1) = true := by decide +kernel
theorem wk9_0_1_1_0_0_0_2 : wk 9 2 8 4 (aw (aw (aw (aw (aw (aw (aw c0 1 0) 2 1) 3 1) 4 0) 5 0) 6 0) 7 2) = true := by decide +kernel
theorem wk9_0_1_1_0_0_0_3 : wk 9 2 8 5 (aw (aw (aw (aw (aw (aw (aw c0 1 0) 2 1) 3 1) 4 0) 5 0) 6 0) 7 3) = true := by decide +kernel
theorem wk9_0_1_1_0_0_0_4 : wk 9 2 8 6 (aw (aw (aw (aw (aw (aw (aw c0 1 0) 2 1) 3 1) 4 0) 5 0) 6 0) 7 4) = true := by decide +kernel
theorem wk9_0_1_1_0_0_0_5 : wk 9 2 8 7 (aw (aw (aw (aw (aw (aw (aw c0 1 0) 2 1) 3 1) 4 0) 5 0) 6 0) 7 5) = true := by decide +kernel
theorem wk9_0_1_1_0_0_0 : wk 9 3 7 2 (aw (aw (aw (aw (aw (aw c0 1 0) 2 1) 3 1) 4 0) 5 0) 6 0) = true := wk_c (fun v hv => by
  rcases (by omega : v = 0 ∨ v = 1 ∨ v = 2 ∨ v = 3 ∨ v = 4 ∨ v = 5) with rfl | rfl | rfl | rfl | rfl | rfl
  · exact wk9_0_1_1_0_0_0_0
  · exact wk9_0_1_1_0_0_0_1
  · exact wk9_0_1_1_0_0_0_2
  · exact wk9_0_1_1_0_0_0_3
  · exact wk9_0_1_1_0_0_0_4
  · exact wk9_0_1_1_0_0_0_5)
theorem wk9_0_1_1_0_0_1_0 : wk 9 2 8 3 (aw (aw (aw (aw (aw (aw (aw c0 1 0) 2 1) 3 1) 4 0) 5 0) 6 1) 7 0) = true := by decide +kernel
theorem wk9_0_1_1_0_0_1_1 : wk 9 2 8 4 (aw (aw (aw (aw (aw (aw (aw c0 1 0) 2 1) 3 1) 4 0) 5 0) 6 1) 7 1) = true := by decide +kernel
theorem wk9_0_1_1_0_0_1_2 : wk 9 2 8 5 (aw (aw (aw (aw (aw (aw (aw c0 1 0) 2 1) 3 1) 4 0) 5 0) 6 1) 7 2) = true := by decide +kernel
theorem wk9_0_1_1_0_0_1_3 : wk 9 2 8 6 (aw (aw (aw (aw (aw (aw (aw c0 1 0) 2 1) 3 1) 4 0) 5 0) 6 1) 7 3) = true := by decide +kernel
theorem wk9_0_1_1_0_0_1_4 : wk 9 2 8 7 (aw (aw (aw (aw (aw (aw (aw c0 1 0) 2 1) 3 1) 4 0) 5 0) 6 1) 7 4) = true := by decide +kernel
theorem wk9_0_1_1_0_0_1 : wk 9 3 7 3 (aw (aw (aw (aw (aw (aw c0 1 0) 2 1) 3 1) 4 0) 5 0) 6 1) = true := wk_c (fun v hv => by
  rcases (by omega : v = 0 ∨ v = 1 ∨ v = 2 ∨ v = 3 ∨ v = 4) with rfl | rfl | rfl | rfl | rfl
  · exact wk9_0_1_1_0_0_1_0
  · exact wk9_0_1_1_0_0_1_1
  · exact wk9_0_1_1_0_0_1_2
  · exact wk9_0_1_1_0_0_1_3
  · exact wk9_0_1_1_0_0_1_4)
theorem wk9_0_1_1_0_0_2_0 : wk 9 2 8 4 (aw (aw (aw (aw (aw (aw (aw c0 1 0) 2 1) 3 1) 4 0) 5 0) 6 2) 7 0) = true := by decide +kernel
theorem wk9_0_1_1_0_0_2_1 : wk 9 2 8 5 (aw (aw (aw (aw (aw (aw (aw c0 1 0) 2 1) 3 1) 4 0) 5 0) 6 2) 7 1) = true := by decide +kernel
theorem wk9_0_1_1_0_0_2_2 : wk 9 2 8 6 (aw (aw (aw (aw (aw (aw (aw c0 1 0) 2 1) 3 1) 4 0) 5 0) 6 2) 7 2) = true := by decide +kernel
theorem wk9_0_1_1_0_0_2_3 : wk 9 2 8 7 (aw (aw (aw (aw (aw (aw (aw c0 1 0) 2 1) 3 1) 4 0) 5 0) 6 2) 7 3) = true := by decide +kernel
theorem wk9_0_1_1_0_0_2 : wk 9 3 7 4 (aw (aw (aw (aw (aw (aw c0 1 0) 2 1) 3 1) 4 0) 5 0) 6 2) = true := wk_c (fun v hv => by
  rcases (by omega : v = 0 ∨ v = 1 ∨ v = 2 ∨ v = 3) with rfl | rfl | rfl | rfl
  · exact wk9_0_1_1_0_0_2_0
  · exact wk9_0_1_1_0_0_2_1
  · exact wk9_0_1_1_0_0_2_2
  · exact wk9_0_1_1_0_0_2_3)
theorem wk9_0_1_1_0_0_3_0 : wk 9 2 8 5 (aw (aw (aw (aw (aw (aw (aw c0 1 0) 2 1) 3 1) 4 0) 5 0) 6 3) 7 0) = true := by decide +kernel
theorem wk9_0_1_1_0_0_3_1 : wk 9 2 8 6 (aw (aw (aw (aw (aw (aw (aw c0 1 0) 2 1) 3 1) 4 0) 5 0) 6 3) 7 1) = true := by decide +kernel
theorem wk9_0_1_1_0_0_3_2 : wk 9 2 8 7 (aw (aw (aw (aw (aw (aw (aw c0 1 0) 2 1) 3 1) 4 0) 5 0) 6 3) 7 2) = true := by decide +kernel
theorem wk9_0_1_1_0_0_3 : wk 9 3 7 5 (aw (aw (aw (aw (aw (aw c0 1 0) 2 1) 3 1) 4 0) 5 0) 6 3) = true := wk_c (fun v hv => by
  rcases (by omega : v = 0 ∨ v = 1 ∨ v = 2) with rfl | rfl | rfl
  · exact wk9_0_1_1_0_0_3_0
  · exact wk9_0_1_1_0_0_3_1
  · exact wk9_0_1_1_0_0_3_2)
theorem wk9_0_1_1_0_0_4_0 : wk 9 2 8 6 (aw (aw (aw (aw (aw (aw (aw c0 1 0) 2 1) 3 1) 4 0) 5 0) 6 4) 7 0) = true := by decide +kernel
theorem wk9_0_1_1_0_0_4_1 : wk 9 2 8 7 (aw (aw (aw (aw (aw (aw (aw c0 1 0) 2 1) 3 1) 4 0) 5 0) 6 4) 7 1) = true := by decide +kernel
theorem wk9_0_1_1_0_0_4 : wk 9 3 7 6 (aw (aw (aw (aw (aw (aw c0 1 0) 2 1) 3 1) 4 0) 5 0) 6 4) = true := wk_c (fun v hv => by
  rcases (by omega : v = 0 ∨ v = 1) with rfl | rfl
  · exact wk9_0_1_1_0_0_4_0
  · exact wk9_0_1_1_0_0_4_1)
theorem wk9_0_1_1_0_0 : wk 9 4 6 2 (aw (aw (aw (aw (aw c0 1 0) 2 1) 3 1) 4 0) 5 0) = true := wk_c (fun v hv => by
  rcases (by omega : v = 0 ∨ v = 1 ∨ v = 2 ∨ v = 3 ∨ v = 4) with rfl | rfl | rfl | rfl | rfl
  · exact wk9_0_1_1_0_0_0
  · exact wk9_0_1_1_0_0_1
  · exact wk9_0_1_1_0_0_2
  · exact wk9_0_1_1_0_0_3
  · exact wk9_0_1_1_0_0_4)
theorem wk9_0_1_1_0_1_0_0 : wk 9 2 8 3 (aw (aw (aw (aw (aw (aw (aw c0 1 0) 2 1) 3 1) 4 0) 5 1) 6 0) 7 0) = true := by decide +kernel
theorem wk9_0_1_1_0_1_0_1 : wk 9 2 8 4 (aw (aw (aw (aw (aw (aw (aw c0 1 0) 2 1) 3 1) 4 0) 5 1) 6 0) 7 1) = true := by decide +kernel
theorem wk9_0_1_1_0_1_0_2 : wk 9 2 8 5 (aw (aw (aw (aw (aw (aw (aw c0 1 0) 2 1) 3 1) 4 0) 5 1) 6 0) 7 2) = true := by decide +kernel
theorem wk9_0_1_1_0_1_0_3 : wk 9 2 8 6 (aw (aw (aw (aw (aw (aw (aw c0 1 0) 2 1) 3 1) 4 0) 5 1) 6 0) 7 3) = true := by decide +kernel
theorem wk9_0_1_1_0_1_0_4 : wk 9 2 8 7 (aw (aw (aw (aw (aw (aw (aw c0 1 0) 2 1) 3 1) 4 0) 5 1) 6 0) 7 4) = true := by decide +kernel
theorem wk9_0_1_1_0_1_0 : wk 9 3 7 3 (aw (aw (aw (aw (aw (aw c0 1 0) 2 1) 3 1) 4 0) 5 1) 6 0) = true := wk_c (fun v hv => by
  rcases (by omega : v = 0 ∨ v = 1 ∨ v = 2 ∨ v = 3 ∨ v = 4) with rfl | rfl | rfl | rfl | rfl
  · exact wk9_0_1_1_0_1_0_0
  · exact wk9_0_1_1_0_1_0_1
  · exact wk9_0_1_1_0_1_0_2
  · exact wk9_0_1_1_0_1_0_3
  · exact wk9_0_1_1_0_1_0_4)
theorem wk9_0_1_1_0_1_1_0 : wk 9 2 8 4 (aw (aw (aw (aw (aw (aw (aw c0 1 0) 2 1) 3 1) 4 0) 5 1) 6 1) 7 0) = true := by decide +kernel
theorem wk9_0_1_1_0_1_1_1 : wk 9 2 8 5 (aw (aw (aw (aw (aw (aw (aw c0 1 0) 2 1) 3 1) 4 0) 5 1) 6 1) 7 1) = true := by decide +kernel
theorem wk9_0_1_1_0_1_1_2 : wk 9 2 8 6 (aw (aw (aw (aw (aw (aw (aw c0 1 0) 2 1) 3 1) 4 0) 5 1) 6 1) 7 2) = true := by decide +kernel
theorem wk9_0_1_1_0_1_1_3 : wk 9 2 8 7 (aw (aw (aw (aw (aw (aw (aw c0 1 0) 2 1) 3 1) 4 0) 5 1) 6 1) 7 3) = true := by decide +kernel
theorem wk9_0_1_1_0_1_1 : wk 9 3 7 4 (aw (aw (aw (aw (aw (aw c0 1 0) 2 1) 3 1) 4 0) 5 1) 6 1) = true := wk_c (fun v hv => by
  rcases (by omega : v = 0 ∨ v = 1 ∨ v = 2 ∨ v = 3) with rfl | rfl | rfl | rfl
  · exact wk9_0_1_1_0_1_1_0
  · exact wk9_0_1_1_0_1_1_1
  · exact wk9_0_1_1_0_1_1_2
  · exact wk9_0_1_1_0_1_1_3)
theorem wk9_0_1_1_0_1_2_0 : wk 9 2 8 5 (aw (aw (aw (aw (aw (aw (aw c0 1 0) 2 1) 3 1) 4 0) 5 1) 6 2) 7 0) = true := by decide +kernel
theorem wk9_0_1_1_0_1_2_1 : wk 9 2 8 6 (aw (aw (aw (aw (aw (aw (aw c0 1 0) 2 1) 3 1) 4 0) 5 1) 6 2) 7 1) = true := by decide +kernel
theorem wk9_0_1_1_0_1_2_2 : wk 9 2 8 7 (aw (aw (aw (aw (aw (aw (aw c0 1 0) 2 1) 3 1) 4 0) 5 1) 6 2) 7 2) = true := by decide +kernel
theorem wk9_0_1_1_0_1_2 : wk 9 3 7 5 (aw (aw (aw (aw (aw (aw c0 1 0) 2 1) 3 1) 4 0) 5 1) 6 2) = true := wk_c (fun v hv => by
  rcases (by omega : v = 0 ∨ v = 1 ∨ v = 2) with rfl | rfl | rfl
  · exact wk9_0_1_1_0_1_2_0
  · exact wk9_0_1_1_0_1_2_1
  · exact wk9_0_1_1_0_1_2_2)
theorem wk9_0_1_1_0_1_3_0 : wk 9 2 8 6 (aw (aw (aw (aw (aw (aw (aw c0 1 0) 2 1) 3 1) 4 0) 5 1) 6 3) 7 0) = true := by decide +kernel
theorem wk9_0_1_1_0_1_3_1 : wk 9 2 8 7 (aw (aw (aw (aw (aw (aw (aw c0 1 0) 2 1) 3 1) 4 0) 5 1) 6 3) 7 1) = true := by decide +kernel
theorem wk9_0_1_1_0_1_3 : wk 9 3 7 6 (aw (aw (aw (aw (aw (aw c0 1 0) 2 1) 3 1) 4 0) 5 1) 6 3) = true := wk_c (fun v hv => by
  rcases (by omega : v = 0 ∨ v = 1) with rfl | rfl
  · exact wk9_0_1_1_0_1_3_0
  · exact wk9_0_1_1_0_1_3_1)
theorem wk9_0_1_1_0_1 : wk 9 4 6 3 (aw (aw (aw (aw (aw c0 1 0) 2 1) 3 1) 4 0) 5 1) = true := wk_c (fun v hv => by
  rcases (by omega : v = 0 ∨ v = 1 ∨ v = 2 ∨ v = 3) with rfl | rfl | rfl | rfl
  · exact wk9_0_1_1_0_1_0
  · exact wk9_0_1_1_0_1_1
  · exact wk9_0_1_1_0_1_2
  · exact wk9_0_1_1_0_1_3)
theorem wk9_0_1_1_0_2_0_0 : wk 9 2 8 4 (aw (aw (aw (aw (aw (aw (aw c0 1 0) 2 1) 3 1) 4 0) 5 2) 6 0) 7 0) = true := by decide +kernel
theorem wk9_0_1_1_0_2_0_1 : wk 9 2 8 5 (aw (aw (aw (aw (aw (aw (aw c0 1 0) 2 1) 3 1) 4 0) 5 2) 6 0) 7 1) = true := by decide +kernel
theorem wk9_0_1_1_0_2_0_2 : wk 9 2 8 6 (aw (aw (aw (aw (aw (aw (aw c0 1 0) 2 1) 3 1) 4 0) 5 2) 6 0) 7 2) = true := by decide +kernel
theorem wk9_0_1_1_0_2_0_3 : wk 9 2 8 7 (aw (aw (aw (aw (aw (aw (aw c0 1 0) 2 1) 3 1) 4 0) 5 2) 6 0) 7 3) = true := by decide +kernel
theorem wk9_0_1_1_0_2_0 : wk 9 3 7 4 (aw (aw (aw (aw (aw (aw c0 1 0) 2 1) 3 1) 4 0) 5 2) 6 0) = true := wk_c (fun v hv => by
  rcases (by omega : v = 0 ∨ v = 1 ∨ v = 2 ∨ v = 3) with rfl | rfl | rfl | rfl
  · exact wk9_0_1_1_0_2_0_0
  · exact wk9_0_1_1_0_2_0_1
  · exact wk9_0_1_1_0_2_0_2
  · exact wk9_0_1_1_0_2_0_3)
theorem wk9_0_1_1_0_2_1_0 : wk 9 2 8 5 (aw (aw (aw (aw (aw (aw (aw c0 1 0) 2 1) 3 1) 4 0) 5 2) 6 1) 7 0) = true := by decide +kernel
theorem wk9_0_1_1_0_2_1_1 : wk 9 2 8 6 (aw (aw (aw (aw (aw (aw (aw c0 1 0) 2 1) 3 1) 4 0) 5 2) 6 1) 7 1) = true := by decide +kernel
theorem wk9_0_1_1_0_2_1_2 : wk 9 2 8 7 (aw (aw (aw (aw (aw (aw (aw c0 1 0) 2 1) 3 1) 4 0) 5 2) 6 1) 7 2) = true := by decide +kernel
theorem wk9_0_1_1_0_2_1 : wk 9 3 7 5 (aw (aw (aw (aw (aw (aw c0 1 0) 2 1) 3 1) 4 0) 5 2) 6 1) = true := wk_c (fun v hv => by
  rcases (by omega : v = 0 ∨ v = 1 ∨ v = 2) with rfl | rfl | rfl
  · exact wk9_0_1_1_0_2_1_0
  · exact wk9_0_1_1_0_2_1_1
  · exact wk9_0_1_1_0_2_1_2)
theorem wk9_0_1_1_0_2_2_0 : wk 9 2 8 6 (aw (aw (aw (aw (aw (aw (aw c0 1 0) 2 1) 3 1) 4 0) 5 2) 6 2) 7 0) = true := by decide +kernel
theorem wk9_0_1_1_0_2_2_1 : wk 9 2 8 7 (aw (aw (aw (aw (aw (aw (aw c0 1 0) 2 1) 3 1) 4 0) 5 2) 6 2) 7 1) = true := by decide +kernel
theorem wk9_0_1_1_0_2_2 : wk 9 3 7 6 (aw (aw (aw (aw (aw (aw c0 1 0) 2 1) 3 1) 4 0) 5 2) 6 2) = true := wk_c (fun v hv => by
  rcases (by omega : v = 0 ∨ v = 1) with rfl | rfl
  · exact wk9_0_1_1_0_2_2_0
  · exact wk9_0_1_1_0_2_2_1)
theorem wk9_0_1_1_0_2 : wk 9 4 6 4 (aw (aw (aw (aw (aw c0 1 0) 2 1) 3 1) 4 0) 5 2) = true := wk_c (fun v hv => by
  rcases (by omega : v = 0 ∨ v = 1 ∨ v = 2) with rfl | rfl | rfl
  · exact wk9_0_1_1_0_2_0
  · exact wk9_0_1_1_0_2_1
  · exact wk9_0_1_1_0_2_2)
theorem wk9_0_1_1_0_3_0_0 : wk 9 2 8 5 (aw (aw (aw (aw (aw (aw (aw c0 1 0) 2 1) 3 1) 4 0) 5 3) 6 0) 7 0) = true := by decide +kernel
theorem wk9_0_1_1_0_3_0_1 : wk 9 2 8 6 (aw (aw (aw (aw (aw (aw (aw c0 1 0) 2 1) 3 1) 4 0) 5 3) 6 0) 7 1) = true := by decide +kernel
theorem wk9_0_1_1_0_3_0_2 : wk 9 2 8 7 (aw (aw (aw (aw (aw (aw (aw c0 1 0) 2 1) 3 1) 4 0) 5 3) 6 0) 7 2) = true := by decide +kernel
theorem wk9_0_1_1_0_3_0 : wk 9 3 7 5 (aw (aw (aw (aw (aw (aw c0 1 0) 2 1) 3 1) 4 0) 5 3) 6 0) = true := wk_c (fun v hv => by
  rcases (by omega : v = 0 ∨ v = 1 ∨ v = 2) with rfl | rfl | rfl
  · exact wk9_0_1_1_0_3_0_0
  · exact wk9_0_1_1_0_3_0_1
  · exact wk9_0_1_1_0_3_0_2)
theorem wk9_0_1_1_0_3_1_0 : wk 9 2 8 6 (aw (aw (aw (aw (aw (aw (aw c0 1 0) 2 1) 3 1) 4 0) 5 3) 6 1) 7 0) = true := by decide +kernel
theorem wk9_0_1_1_0_3_1_1 : wk 9 2 8 7 (aw (aw (aw (aw (aw (aw (aw c0 1 0) 2 1) 3 1) 4 0) 5 3) 6 1) 7 1) = true := by decide +kernel
theorem wk9_0_1_1_0_3_1 : wk 9 3 7 6 (aw (aw (aw (aw (aw (aw c0 1 0) 2 1) 3 1) 4 0) 5 3) 6 1) = true := wk_c (fun v hv => by
  rcases (by omega : v = 0 ∨ v = 1) with rfl | rfl
  · exact wk9_0_1_1_0_3_1_0
  · exact wk9_0_1_1_0_3_1_1)
theorem wk9_0_1_1_0_3 : wk 9 4 6 5 (aw (aw (aw (aw (aw c0 1 0) 2 1) 3 1) 4 0) 5 3) = true := wk_c (fun v hv => by
  rcases (by omega : v = 0 ∨ v = 1) with rfl | rfl
  · exact wk9_0_1_1_0_3_0
  · exact wk9_0_1_1_0_3_1)
theorem wk9_0_1_1_0 : wk 9 5 5 2 (aw (aw (aw (aw c0 1 0) 2 1) 3 1) 4 0) = true := wk_c (fun v hv => by
  rcases (by omega : v = 0 ∨ v = 1 ∨ v = 2 ∨ v = 3) with rfl | rfl | rfl | rfl
  · exact wk9_0_1_1_0_0
  · exact wk9_0_1_1_0_1
  · exact wk9_0_1_1_0_2
  · exact wk9_0_1_1_0_3)
theorem wk9_0_1_1_1_0_0_0 : wk 9 2 8 3 (aw (aw (aw (aw (aw (aw (aw c0 1 0) 2 1) 3 1) 4 1) 5 0) 6 0) 7 0) = true := by decide +kernel
theorem wk9_0_1_1_1_0_0_1 : wk 9 2 8 4 (aw (aw (aw (aw (aw (aw (aw c0 1 0) 2 1) 3 1) 4 1) 5 0) 6 0) 7 1) = true := by decide +kernel
theorem wk9_0_1_1_1_0_0_2 : wk 9 2 8 5 (aw (aw (aw (aw (aw (aw (aw c0 1 0) 2 1) 3 1) 4 1) 5 0) 6 0) 7 2) = true := by decide +kernel
theorem wk9_0_1_1_1_0_0_3 : wk 9 2 8 6 (aw (aw (aw (aw (aw (aw (aw c0 1 0) 2 1) 3 1) 4 1) 5 0) 6 0) 7 3) = true := by decide +kernel
theorem wk9_0_1_1_1_0_0_4 : wk 9 2 8 7 (aw (aw (aw (aw (aw (aw (aw c0 1 0) 2 1) 3 1) 4 1) 5 0) 6 0) 7 4) = true := by decide +kernel
theorem wk9_0_1_1_1_0_0 : wk 9 3 7 3 (aw (aw (aw (aw (aw (aw c0 1 0) 2 1) 3 1) 4 1) 5 0) 6 0) = true := wk_c (fun v hv => by
  rcases (by omega : v = 0 ∨ v = 1 ∨ v = 2 ∨ v = 3 ∨ v = 4) with rfl | rfl | rfl | rfl | rfl
  · exact wk9_0_1_1_1_0_0_0
  · exact wk9_0_1_1_1_0_0_1
  · exact wk9_0_1_1_1_0_0_2
  · exact wk9_0_1_1_1_0_0_3
  · exact wk9_0_1_1_1_0_0_4)
theorem wk9_0_1_1_1_0_1_0 : wk 9 2 8 4 (aw (aw (aw (aw (aw (aw (aw c0 1 0) 2 1) 3 1) 4 1) 5 0) 6 1) 7 0) = true := by decide +kernel
theorem wk9_0_1_1_1_0_1_1 : wk 9 2 8 5 (aw (aw (aw (aw (aw (aw (aw c0 1 0) 2 1) 3 1) 4 1) 5 0) 6 1) 7 1) = true := by decide +kernel
theorem wk9_0_1_1_1_0_1_2 : wk 9 2 8 6 (aw (aw (aw (aw (aw (aw (aw c0 1 0) 2 1) 3 1) 4 1) 5 0) 6 1) 7 2) = true := by decide +kernel
theorem wk9_0_1_1_1_0_1_3 : wk 9 2 8 7 (aw (aw (aw (aw (aw (aw (aw c0 1 0) 2 1) 3 1) 4 1) 5 0) 6 1) 7 3) = true := by decide +kernel
theorem wk9_0_1_1_1_0_1 : wk 9 3 7 4 (aw (aw (aw (aw (aw (aw c0 1 0) 2 1) 3 1) 4 1) 5 0) 6 1) = true := wk_c (fun v hv => by
  rcases (by omega : v = 0 ∨ v = 1 ∨ v = 2 ∨ v = 3) with rfl | rfl | rfl | rfl
  · exact wk9_0_1_1_1_0_1_0
  · exact wk9_0_1_1_1_0_1_1
  · exact wk9_0_1_1_1_0_1_2
  · exact wk9_0_1_1_1_0_1_3)
theorem wk9_0_1_1_1_0_2_0 : wk 9 2 8 5 (aw (aw (aw (aw (aw (aw (aw c0 1 0) 2 1) 3 1) 4 1) 5 0) 6 2) 7 0) = true := by decide +kernel
theorem wk9_0_1_1_1_0_2_1 : wk 9 2 8 6 (aw (aw (aw (aw (aw (aw (aw c0 1 0) 2 1) 3 1) 4 1) 5 0) 6 2) 7 1) = true := by decide +kernel
theorem wk9_0_1_1_1_0_2_2 : wk 9 2 8 7 (aw (aw (aw (aw (aw (aw (aw c0 1 0) 2 1) 3 1) 4 1) 5 0) 6 2) 7 2) = true := by decide +kernel
theorem wk9_0_1_1_1_0_2 : wk 9 3 7 5 (aw (aw (aw (aw (aw (aw c0 1 0) 2 1) 3 1) 4 1) 5 0) 6 2) = true := wk_c (fun v hv => by
  rcases (by omega : v = 0 ∨ v = 1 ∨ v = 2) with rfl | rfl | rfl
  · exact wk9_0_1_1_1_0_2_0
  · exact wk9_0_1_1_1_0_2_1
  · exact wk9_0_1_1_1_0_2_2)
theorem wk9_0_1_1_1_0_3_0 : wk 9 2 8 6 (aw (aw (aw (aw (aw (aw (aw c0 1 0) 2 1) 3 1) 4 1) 5 0) 6 3) 7 0) = true := by decide +kernel
theorem wk9_0_1_1_1_0_3_1 : wk 9 2 8 7 (aw (aw (aw (aw (aw (aw (aw c0 1 0) 2 1) 3 1) 4 1) 5 0) 6 3) 7 1) = true := by decide +kernel
theorem wk9_0_1_1_1_0_3 : wk 9 3 7 6 (aw (aw (aw (aw (aw (aw c0 1 0) 2 1) 3 1) 4 1) 5 0) 6 3) = true := wk_c (fun v hv => by
  rcases (by omega : v = 0 ∨ v = 1) with rfl | rfl
  · exact wk9_0_1_1_1_0_3_0
  · exact wk9_0_1_1_1_0_3_1)
theorem wk9_0_1_1_1_0 : wk 9 4 6 3 (aw (aw (aw (aw (aw c0 1 0) 2 1) 3 1) 4 1) 5 0) = true := wk_c (fun v hv => by
  rcases (by omega : v = 0 ∨ v = 1 ∨ v = 2 ∨ v = 3) with rfl | rfl | rfl | rfl
  · exact wk9_0_1_1_1_0_0
  · exact wk9_0_1_1_1_0_1
  · exact wk9_0_1_1_1_0_2
  · exact wk9_0_1_1_1_0_3)
theorem wk9_0_1_1_1_1_0_0 : wk 9 2 8 4 (aw (aw (aw (aw (aw (aw (aw c0 1 0) 2 1) 3 1) 4 1) 5 1) 6 0) 7 0) = true := by decide +kernel
theorem wk9_0_1_1_1_1_0_1 : wk 9 2 8 5 (aw (aw (aw (aw (aw (aw (aw c0 1 0) 2 1) 3 1) 4 1) 5 1) 6 0) 7 1) = true := by decide +kernel
theorem wk9_0_1_1_1_1_0_2 : wk 9 2 8 6 (aw (aw (aw (aw (aw (aw (aw c0 1 0) 2 1) 3 1) 4 1) 5 1) 6 0) 7 2) = true := by decide +kernel
theorem wk9_0_1_1_1_1_0_3 : wk 9 2 8 7 (aw (aw (aw (aw (aw (aw (aw c0 1 0) 2 1) 3 1) 4 1) 5 1) 6 0) 7 3) = true := by decide +kernel
theorem wk9_0_1_1_1_1_0 : wk 9 3 7 4 (aw (aw (aw (aw (aw (aw c0 1 0) 2 1) 3 1) 4 1) 5 1) 6 0) = true := wk_c (fun v hv => by
  rcases (by omega : v = 0 ∨ v = 1 ∨ v = 2 ∨ v = 3) with rfl | rfl | rfl | rfl
  · exact wk9_0_1_1_1_1_0_0
  · exact wk9_0_1_1_1_1_0_1
  · exact wk9_0_1_1_1_1_0_2
  · exact wk9_0_1_1_1_1_0_3)
theorem wk9_0_1_1_1_1_1_0 : wk 9 2 8 5 (aw (aw (aw (aw (aw (aw (aw c0 1 0) 2 1) 3 1) 4 1) 5 1) 6 1) 7 0) = true := by decide +kernel
theorem wk9_0_1_1_1_1_1_1 : wk 9 2 8 6 (aw (aw (aw (aw (aw (aw (aw c0 1 0) 2 1) 3 1) 4 1) 5 1) 6 1) 7 1) = true := by decide +kernel
theorem wk9_0_1_1_1_1_1_2 : wk 9 2 8 7 (aw (aw (aw (aw (aw (aw (aw c0 1 0) 2 1) 3 1) 4 1) 5 1) 6 1) 7 2) = true := by decide +kernel
theorem wk9_0_1_1_1_1_1 : wk 9 3 7 5 (aw (aw (aw (aw (aw (aw c0 1 0) 2 1) 3 1) 4 1) 5 1) 6 1) = true := wk_c (fun v hv => by
  rcases (by omega : v = 0 ∨ v = 1 ∨ v = 2) with rfl | rfl | rfl
  · exact wk9_0_1_1_1_1_1_0
  · exact wk9_0_1_1_1_1_1_1
  · exact wk9_0_1_1_1_1_1_2)
theorem wk9_0_1_1_1_1_2_0 : wk 9 2 8 6 (aw (aw (aw (aw (aw (aw (aw c0 1 0) 2 1) 3 1) 4 1) 5 1) 6 2) 7 0) = true := by decide +kernel
theorem wk9_0_1_1_1_1_2_1 : wk 9 2 8 7 (aw (aw (aw (aw (aw (aw (aw c0 1 0) 2 1) 3 1) 4 1) 5 1) 6 2) 7 1) = true := by decide +kernel
theorem wk9_0_1_1_1_1_2 : wk 9 3 7 6 (aw (aw (aw (aw (aw (aw c0 1 0) 2 1) 3 1) 4 1) 5 1) 6 2) = true := wk_c (fun v hv => by
  rcases (by omega : v = 0 ∨ v = 1) with rfl | rfl
  · exact wk9_0_1_1_1_1_2_0
  · exact wk9_0_1_1_1_1_2_1)
theorem wk9_0_1_1_1_1 : wk 9 4 6 4 (aw (aw (aw (aw (aw c0 1 0) 2 1) 3 1) 4 1) 5 1) = true := wk_c (fun v hv => by
  rcases (by omega : v = 0 ∨ v = 1 ∨ v = 2) with rfl | rfl | rfl
  · exact wk9_0_1_1_1_1_0
  · exact wk9_0_1_1_1_1_1
  · exact wk9_0_1_1_1_1_2)
theorem wk9_0_1_1_1_2_0_0 : wk 9 2 8 5 (aw (aw (aw (aw (aw (aw (aw c0 1 0) 2 1) 3 1) 4 1) 5 2) 6 0) 7 0) = true := by decide +kernel
theorem wk9_0_1_1_1_2_0_1 : wk 9 2 8 6 (aw (aw (aw (aw (aw (aw (aw c0 1 0) 2 1) 3 1) 4 1) 5 2) 6 0) 7 1) = true := by decide +kernel
theorem wk9_0_1_1_1_2_0_2 : wk 9 2 8 7 (aw (aw (aw (aw (aw (aw (aw c0 1 0) 2 1) 3 1) 4 1) 5 2) 6 0) 7 2) = true := by decide +kernel
theorem wk9_0_1_1_1_2_0 : wk 9 3 7 5 (aw (aw (aw (aw (aw (aw c0 1 0) 2 1) 3 1) 4 1) 5 2) 6 0) = true := wk_c (fun v hv => by
  rcases (by omega : v = 0 ∨ v = 1 ∨ v = 2) with rfl | rfl | rfl
  · exact wk9_0_1_1_1_2_0_0
  · exact wk9_0_1_1_1_2_0_1
  · exact wk9_0_1_1_1_2_0_2)
theorem wk9_0_1_1_1_2_1_0 : wk 9 2 8 6 (aw (aw (aw (aw (aw (aw (aw c0 1 0) 2 1) 3 1) 4 1) 5 2) 6 1) 7 0) = true := by decide +kernel
theorem wk9_0_1_1_1_2_1_1 : wk 9 2 8 7 (aw (aw (aw (aw (aw (aw (aw c0 1 0) 2 1) 3 1) 4 1) 5 2) 6 1) 7 1) = true := by decide +kernel
theorem wk9_0_1_1_1_2_1 : wk 9 3 7 6 (aw (aw (aw (aw (aw (aw c0 1 0) 2 1) 3 1) 4 1) 5 2) 6 1) = true := wk_c (fun v hv => by
  rcases (by omega : v = 0 ∨ v = 1) with rfl | rfl
  · exact wk9_0_1_1_1_2_1_0
  · exact wk9_0_1_1_1_2_1_1)
theorem wk9_0_1_1_1_2 : wk 9 4 6 5 (aw (aw (aw (aw (aw c0 1 0) 2 1) 3 1) 4 1) 5 2) = true := wk_c (fun v hv => by
  rcases (by omega : v = 0 ∨ v = 1) with rfl | rfl
  · exact wk9_0_1_1_1_2_0
  · exact wk9_0_1_1_1_2_1)
theorem wk9_0_1_1_1 : wk 9 5 5 3 (aw (aw (aw (aw c0 1 0) 2 1) 3 1) 4 1) = true := wk_c (fun v hv => by
  rcases (by omega : v = 0 ∨ v = 1 ∨ v = 2) with rfl | rfl | rfl
  · exact wk9_0_1_1_1_0
  · exact wk9_0_1_1_1_1
  · exact wk9_0_1_1_1_2)
theorem wk9_0_1_1_2_0_0_0 : wk 9 2 8 4 (aw (aw (aw (aw (aw (aw (aw c0 1 0) 2 1) 3 1) 4 2) 5 0) 6 0) 7 0) = true := by decide +kernel
theorem wk9_0_1_1_2_0_0_1 : wk 9 2 8 5 (aw (aw (aw (aw (aw (aw (aw c0 1 0) 2 1) 3 1) 4 2) 5 0) 6 0) 7 1) = true := by decide +kernel
theorem wk9_0_1_1_2_0_0_2 : wk 9 2 8 6 (aw (aw (aw (aw (aw (aw (aw c0 1 0) 2 1) 3 1) 4 2) 5 0) 6 0) 7 2) = true := by decide +kernel
theorem wk9_0_1_1_2_0_0_3 : wk 9 2 8 7 (aw (aw (aw (aw (aw (aw (aw c0 1 0) 2 1) 3 1) 4 2) 5 0) 6 0) 7 3) = true := by decide +kernel
theorem wk9_0_1_1_2_0_0 : wk 9 3 7 4 (aw (aw (aw (aw (aw (aw c0 1 0) 2 1) 3 1) 4 2) 5 0) 6 0) = true := wk_c (fun v hv => by
  rcases (by omega : v = 0 ∨ v = 1 ∨ v = 2 ∨ v = 3) with rfl | rfl | rfl | rfl
  · exact wk9_0_1_1_2_0_0_0
  · exact wk9_0_1_1_2_0_0_1
  · exact wk9_0_1_1_2_0_0_2
  · exact wk9_0_1_1_2_0_0_3)
theorem wk9_0_1_1_2_0_1_0 : wk 9 2 8 5 (aw (aw (aw (aw (aw (aw (aw c0 1 0) 2 1) 3 1) 4 2) 5 0) 6 1) 7 0) = true := by decide +kernel
theorem wk9_0_1_1_2_0_1_1 : wk 9 2 8 6 (aw (aw (aw (aw (aw (aw (aw c0 1 0) 2 1) 3 1) 4 2) 5 0) 6 1) 7 1) = true := by decide +kernel
theorem wk9_0_1_1_2_0_1_2 : wk 9 2 8 7 (aw (aw (aw (aw (aw (aw (aw c0 1 0) 2 1) 3 1) 4 2) 5 0) 6 1) 7 2) = true := by decide +kernel
theorem wk9_0_1_1_2_0_1 : wk 9 3 7 5 (aw (aw (aw (aw (aw (aw c0 1 0) 2 1) 3 1) 4 2) 5 0) 6 1) = true := wk_c (fun v hv => by
  rcases (by omega : v = 0 ∨ v = 1 ∨ v = 2) with rfl | rfl | rfl
  · exact wk9_0_1_1_2_0_1_0
  · exact wk9_0_1_1_2_0_1_1
  · exact wk9_0_1_1_2_0_1_2)
theorem wk9_0_1_1_2_0_2_0 : wk 9 2 8 6 (aw (aw (aw (aw (aw (aw (aw c0 1 0) 2 1) 3 1) 4 2) 5 0) 6 2) 7 0) = true := by decide +kernel
theorem wk9_0_1_1_2_0_2_1 : wk 9 2 8 7 (aw (aw (aw (aw (aw (aw (aw c0 1 0) 2 1) 3 1) 4 2) 5 0) 6 2) 7 1) = true := by decide +kernel
theorem wk9_0_1_1_2_0_2 : wk 9 3 7 6 (aw (aw (aw (aw (aw (aw c0 1 0) 2 1) 3 1) 4 2) 5 0) 6 2) = true := wk_c (fun v hv => by
  rcases (by omega : v = 0 ∨ v = 1) with rfl | rfl
  · exact wk9_0_1_1_2_0_2_0
  · exact wk9_0_1_1_2_0_2_1)
theorem wk9_0_1_1_2_0 : wk 9 4 6 4 (aw (aw (aw (aw (aw c0 1 0) 2 1) 3 1) 4 2) 5 0) = true := wk_c (fun v hv => by
  rcases (by omega : v = 0 ∨ v = 1 ∨ v = 2) with rfl | rfl | rfl
  · exact wk9_0_1_1_2_0_0
  · exact wk9_0_1_1_2_0_1
  · exact wk9_0_1_1_2_0_2)
theorem wk9_0_1_1_2_1_0_0 : wk 9 2 8 5 (aw (aw (aw (aw (aw (aw (aw c0 1 0) 2 1) 3 1) 4 2) 5 1) 6 0) 7 0) = true := by decide +kernel
theorem wk9_0_1_1_2_1_0_1 : wk 9 2 8 6 (aw (aw (aw (aw (aw (aw (aw c0 1 0) 2 1) 3 1) 4 2) 5 1) 6 0) 7 1) = true := by decide +kernel
theorem wk9_0_1_1_2_1_0_2 : wk 9 2 8 7 (aw (aw (aw (aw (aw (aw (aw c0 1 0) 2 1) 3 1) 4 2) 5 1) 6 0) 7 2) = true := by decide +kernel
theorem wk9_0_1_1_2_1_0 : wk 9 3 7 5 (aw (aw (aw (aw (aw (aw c0 1 0) 2 1) 3 1) 4 2) 5 1) 6 0) = true := wk_c (fun v hv => by
  rcases (by omega : v = 0 ∨ v = 1 ∨ v = 2) with rfl | rfl | rfl
  · exact wk9_0_1_1_2_1_0_0
  · exact wk9_0_1_1_2_1_0_1
  · exact wk9_0_1_1_2_1_0_2)
theorem wk9_0_1_1_2_1_1_0 : wk 9 2 8 6 (aw (aw (aw (aw (aw (aw (aw c0 1 0) 2 1) 3 1) 4 2) 5 1) 6 1) 7 0) = true := by decide +kernel
theorem wk9_0_1_1_2_1_1_1 : wk 9 2 8 7 (aw (aw (aw (aw (aw (aw (aw c0 1 0) 2 1) 3 1) 4 2) 5 1) 6 1) 7 1) = true := by decide +kernel
theorem wk9_0_1_1_2_1_1 : wk 9 3 7 6 (aw (aw (aw (aw (aw (aw c0 1 0) 2 1) 3 1) 4 2) 5 1) 6 1) = true := wk_c (fun v hv => by
  rcases (by omega : v = 0 ∨ v = 1) with rfl | rfl
  · exact wk9_0_1_1_2_1_1_0
  · exact wk9_0_1_1_2_1_1_1)
theorem wk9_0_1_1_2_1 : wk 9 4 6 5 (aw (aw (aw (aw (aw c0 1 0) 2 1) 3 1) 4 2) 5 1) = true := wk_c (fun v hv => by
  rcases (by omega : v = 0 ∨ v = 1) with rfl | rfl
  · exact wk9_0_1_1_2_1_0
  · exact wk9_0_1_1_2_1_1)
theorem wk9_0_1_1_2 : wk 9 5 5 4 (aw (aw (aw (aw c0 1 0) 2 1) 3 1) 4 2) = true := wk_c (fun v hv => by
  rcases (by omega : v = 0 ∨ v = 1) with rfl | rfl
  · exact wk9_0_1_1_2_0
  · exact wk9_0_1_1_2_1)
theorem wk9_0_1_1 : wk 9 6 4 2 (aw (aw (aw c0 1 0) 2 1) 3 1) = true := wk_c (fun v hv => by
  rcases (by omega : v = 0 ∨ v = 1 ∨ v = 2) with rfl | rfl | rfl
  · exact wk9_0_1_1_0
  · exact wk9_0_1_1_1
  · exact wk9_0_1_1_2)
theorem wk9_0_1_2_0_0_0_0 : wk 9 2 8 3 (aw (aw (aw (aw (aw (aw (aw c0 1 0) 2 1) 3 2) 4 0) 5 0) 6 0) 7 0) = true := by decide +kernel
theorem wk9_0_1_2_0_0_0_1 : wk 9 2 8 4 (aw (aw (aw (aw (aw (aw (aw c0 1 0) 2 1) 3 2) 4 0) 5 0) 6 0) 7 1) = true := by decide +kernel
theorem wk9_0_1_2_0_0_0_2 : wk 9 2 8 5 (aw (aw (aw (aw (aw (aw (aw c0 1 0) 2 1) 3 2) 4 0) 5 0) 6 0) 7 2) = true := by decide +kernel
theorem wk9_0_1_2_0_0_0_3 : wk 9 2 8 6 (aw (aw (aw (aw (aw (aw (aw c0 1 0) 2 1) 3 2) 4 0) 5 0) 6 0) 7 3) = true := by decide +kernel
theorem wk9_0_1_2_0_0_0_4 : wk 9 2 8 7 (aw (aw (aw (aw (aw (aw (aw c0 1 0) 2 1) 3 2) 4 0) 5 0) 6 0) 7 4) = true := by decide +kernel
theorem wk9_0_1_2_0_0_0 : wk 9 3 7 3 (aw (aw (aw (aw (aw (aw c0 1 0) 2 1) 3 2) 4 0) 5 0) 6 0) = true := wk_c (fun v hv => by
  rcases (by omega : v = 0 ∨ v = 1 ∨ v = 2 ∨ v = 3 ∨ v = 4) with rfl | rfl | rfl | rfl | rfl
  · exact wk9_0_1_2_0_0_0_0
  · exact wk9_0_1_2_0_0_0_1
  · exact wk9_0_1_2_0_0_0_2
  · exact wk9_0_1_2_0_0_0_3
  · exact wk9_0_1_2_0_0_0_4)
theorem wk9_0_1_2_0_0_1_0 : wk 9 2 8 4 (aw (aw (aw (aw (aw (aw (aw c0 1 0) 2 1) 3 2) 4 0) 5 0) 6 1) 7 0) = true := by decide +kernel
theorem wk9_0_1_2_0_0_1_1 : wk 9 2 8 5 (aw (aw (aw (aw (aw (aw (aw c0 1 0) 2 1) 3 2) 4 0) 5 0) 6 1) 7 1) = true := by decide +kernel
theorem wk9_0_1_2_0_0_1_2 : wk 9 2 8 6 (aw (aw (aw (aw (aw (aw (aw c0 1 0) 2 1) 3 2) 4 0) 5 0) 6 1) 7 2) = true := by decide +kernel
theorem wk9_0_1_2_0_0_1_3 : wk 9 2 8 7 (aw (aw (aw (aw (aw (aw (aw c0 1 0) 2 1) 3 2) 4 0) 5 0) 6 1) 7 3) = true := by decide +kernel
theorem wk9_0_1_2_0_0_1 : wk 9 3 7 4 (aw (aw (aw (aw (aw (aw c0 1 0) 2 1) 3 2) 4 0) 5 0) 6 1) = true := wk_c (fun v hv => by
  rcases (by omega : v = 0 ∨ v = 1 ∨ v = 2 ∨ v = 3) with rfl | rfl | rfl | rfl
  · exact wk9_0_1_2_0_0_1_0
  · exact wk9_0_1_2_0_0_1_1
  · exact wk9_0_1_2_0_0_1_2
  · exact wk9_0_1_2_0_0_1_3)
theorem wk9_0_1_2_0_0_2_0 : wk 9 2 8 5 (aw (aw (aw (aw (aw (aw (aw c0 1 0) 2 1) 3 2) 4 0) 5 0) 6 2) 7 0) = true := by decide +kernel
theorem wk9_0_1_2_0_0_2_1 : wk 9 2 8 6 (aw (aw (aw (aw (aw (aw (aw c0 1 0) 2 1) 3 2) 4 0) 5 0) 6 2) 7 1) = true := by decide +kernel
theorem wk9_0_1_2_0_0_2_2 : wk 9 2 8 7 (aw (aw (aw (aw (aw (aw (aw c0 1 0) 2 1) 3 2) 4 0) 5 0) 6 2) 7 2) = true := by decide +kernel
theorem wk9_0_1_2_0_0_2 : wk 9 3 7 5 (aw (aw (aw (aw (aw (aw c0 1 0) 2 1) 3 2) 4 0) 5 0) 6 2) = true := wk_c (fun v hv => by
  rcases (by omega : v = 0 ∨ v = 1 ∨ v = 2) with rfl | rfl | rfl
  · exact wk9_0_1_2_0_0_2_0
  · exact wk9_0_1_2_0_0_2_1
  · exact wk9_0_1_2_0_0_2_2)
theorem wk9_0_1_2_0_0_3_0 : wk 9 2 8 6 (aw (aw (aw (aw (aw (aw (aw c0 1 0) 2 1) 3 2) 4 0) 5 0) 6 3) 7 0) = true := by decide +kernel
theorem wk9_0_1_2_0_0_3_1 : wk 9 2 8 7 (aw (aw (aw (aw (aw (aw (aw c0 1 0) 2 1) 3 2) 4 0) 5 0) 6 3) 7 1) = true := by decide +kernel
theorem wk9_0_1_2_0_0_3 : wk 9 3 7 6 (aw (aw (aw (aw (aw (aw c0 1 0) 2 1) 3 2) 4 0) 5 0) 6 3) = true := wk_c (fun v hv => by
  rcases (by omega : v = 0 ∨ v = 1) with rfl | rfl
  · exact wk9_0_1_2_0_0_3_0
  · exact wk9_0_1_2_0_0_3_1)
theorem wk9_0_1_2_0_0 : wk 9 4 6 3 (aw (aw (aw (aw (aw c0 1 0) 2 1) 3 2) 4 0) 5 0) = true := wk_c (fun v hv => by
  rcases (by omega : v = 0 ∨ v = 1 ∨ v = 2 ∨ v = 3) with rfl | rfl | rfl | rfl
  · exact wk9_0_1_2_0_0_0
  · exact wk9_0_1_2_0_0_1
  · exact wk9_0_1_2_0_0_2
  · exact wk9_0_1_2_0_0_3)
theorem wk9_0_1_2_0_1_0_0 : wk 9 2 8 4 (aw (aw (aw (aw (aw (aw (aw c0 1 0) 2 1) 3 2) 4 0) 5 1) 6 0) 7 0) = true := by decide +kernel
theorem wk9_0_1_2_0_1_0_1 : wk 9 2 8 5 (aw (aw (aw (aw (aw (aw (aw c0 1 0) 2 1) 3 2) 4 0) 5 1) 6 0) 7 1) = true := by decide +kernel
theorem wk9_0_1_2_0_1_0_2 : wk 9 2 8 6 (aw (aw (aw (aw (aw (aw (aw c0 1 0) 2 1) 3 2) 4 0) 5 1) 6 0) 7 2) = true := by decide +kernel
theorem wk9_0_1_2_0_1_0_3 : wk 9 2 8 7 (aw (aw (aw (aw (aw (aw (aw c0 1 0) 2 1) 3 2) 4 0) 5 1) 6 0) 7 3) = true := by decide +kernel
theorem wk9_0_1_2_0_1_0 : wk 9 3 7 4 (aw (aw (aw (aw (aw (aw c0 1 0) 2 1) 3 2) 4 0) 5 1) 6 0) = true := wk_c (fun v hv => by
  rcases (by omega : v = 0 ∨ v = 1 ∨ v = 2 ∨ v = 3) with rfl | rfl | rfl | rfl
  · exact wk9_0_1_2_0_1_0_0
  · exact wk9_0_1_2_0_1_0_1
  · exact wk9_0_1_2_0_1_0_2
  · exact wk9_0_1_2_0_1_0_3)
theorem wk9_0_1_2_0_1_1_0 : wk 9 2 8 5 (aw (aw (aw (aw (aw (aw (aw c0 1 0) 2 1) 3 2) 4 0) 5 1) 6 1) 7 0) = true := by decide +kernel
theorem wk9_0_1_2_0_1_1_1 : wk 9 2 8 6 (aw (aw (aw (aw (aw (aw (aw c0 1 0) 2 1) 3 2) 4 0) 5 1) 6 1) 7 1) = true := by decide +kernel
theorem wk9_0_1_2_0_1_1_2 : wk 9 2 8 7 (aw (aw (aw (aw (aw (aw (aw c0 1 0) 2 1) 3 2) 4 0) 5 1) 6 1) 7 2) = true := by decide +kernel
theorem wk9_0_1_2_0_1_1 : wk 9 3 7 5 (aw (aw (aw (aw (aw (aw c0 1 0) 2 1) 3 2) 4 0) 5 1) 6 1) = true := wk_c (fun v hv => by
  rcases (by omega : v = 0 ∨ v = 1 ∨ v = 2) with rfl | rfl | rfl
  · exact wk9_0_1_2_0_1_1_0
  · exact wk9_0_1_2_0_1_1_1
  · exact wk9_0_1_2_0_1_1_2)
theorem wk9_0_1_2_0_1_2_0 : wk 9 2 8 6 (aw (aw (aw (aw (aw (aw (aw c0 1 0) 2 1) 3 2) 4 0) 5 1) 6 2) 7 0) = true := by decide +kernel
theorem wk9_0_1_2_0_1_2_1 : wk 9 2 8 7 (aw (aw (aw (aw (aw (aw (aw c0 1 0) 2 1) 3 2) 4 0) 5 1) 6 2) 7 1) = true := by decide +kernel
theorem wk9_0_1_2_0_1_2 : wk 9 3 7 6 (aw (aw (aw (aw (aw (aw c0 1 0) 2 1) 3 2) 4 0) 5 1) 6 2) = true := wk_c (fun v hv => by
  rcases (by omega : v = 0 ∨ v = 1) with rfl | rfl
  · exact wk9_0_1_2_0_1_2_0
  · exact wk9_0_1_2_0_1_2_1)
theorem wk9_0_1_2_0_1 : wk 9 4 6 4 (aw (aw (aw (aw (aw c0 1 0) 2 1) 3 2) 4 0) 5 1) = true := wk_c (fun v hv => by
  rcases (by omega : v = 0 ∨ v = 1 ∨ v = 2) with rfl | rfl | rfl
  · exact wk9_0_1_2_0_1_0
  · exact wk9_0_1_2_0_1_1
  · exact wk9_0_1_2_0_1_2)
theorem wk9_0_1_2_0_2_0_0 : wk 9 2 8 5 (aw (aw (aw (aw (aw (aw (aw c0 1 0) 2 1) 3 2) 4 0) 5 2) 6 0) 7 0) = true := by decide +kernel
theorem wk9_0_1_2_0_2_0_1 : wk 9 2 8 6 (aw (aw (aw (aw (aw (aw (aw c0 1 0) 2 1) 3 2) 4 0) 5 2) 6 0) 7 1) = true := by decide +kernel
theorem wk9_0_1_2_0_2_0_2 : wk 9 2 8 7 (aw (aw (aw (aw (aw (aw (aw c0 1 0) 2 1) 3 2) 4 0) 5 2) 6 0) 7 2) = true := by decide +kernel
theorem wk9_0_1_2_0_2_0 : wk 9 3 7 5 (aw (aw (aw (aw (aw (aw c0 1 0) 2 1) 3 2) 4 0) 5 2) 6 0) = true := wk_c (fun v hv => by
  rcases (by omega : v = 0 ∨ v = 1 ∨ v = 2) with rfl | rfl | rfl
  · exact wk9_0_1_2_0_2_0_0
  · exact wk9_0_1_2_0_2_0_1
  · exact wk9_0_1_2_0_2_0_2)
theorem wk9_0_1_2_0_2_1_0 : wk 9 2 8 6 (aw (aw (aw (aw (aw (aw (aw c0 1 0) 2 1) 3 2) 4 0) 5 2) 6 1) 7 0) = true := by decide +kernel
theorem wk9_0_1_2_0_2_1_1 : wk 9 2 8 7 (aw (aw (aw (aw (aw (aw (aw c0 1 0) 2 1) 3 2) 4 0) 5 2) 6 1) 7 1) = true := by decide +kernel
theorem wk9_0_1_2_0_2_1 : wk 9 3 7 6 (aw (aw (aw (aw (aw (aw c0 1 0) 2 1) 3 2) 4 0) 5 2) 6 1) = true := wk_c (fun v hv => by
  rcases (by omega : v = 0 ∨ v = 1) with rfl | rfl
  · exact wk9_0_1_2_0_2_1_0
  · exact wk9_0_1_2_0_2_1_1)
theorem wk9_0_1_2_0_2 : wk 9 4 6 5 (aw (aw (aw (aw (aw c0 1 0) 2 1) 3 2) 4 0) 5 2) = true := wk_c (fun v hv => by
  rcases (by omega : v = 0 ∨ v = 1) with rfl | rfl
  · exact wk9_0_1_2_0_2_0
  · exact wk9_0_1_2_0_2_1)
theorem wk9_0_1_2_0 : wk 9 5 5 3 (aw (aw (aw (aw c0 1 0) 2 1) 3 2) 4 0) = true := wk_c (fun v hv => by
  rcases (by omega : v = 0 ∨ v = 1 ∨ v = 2) with rfl | rfl | rfl
  · exact wk9_0_1_2_0_0
  · exact wk9_0_1_2_0_1
  · exact wk9_0_1_2_0_2)
theorem wk9_0_1_2_1_0_0_0 : wk 9 2 8 4 (aw (aw (aw (aw (aw (aw (aw c0 1 0) 2 1) 3 2) 4 1) 5 0) 6 0) 7 0) = true := by decide +kernel
theorem wk9_0_1_2_1_0_0_1 : wk 9 2 8 5 (aw (aw (aw (aw (aw (aw (aw c0 1 0) 2 1) 3 2) 4 1) 5 0) 6 0) 7 1) = true := by decide +kernel
theorem wk9_0_1_2_1_0_0_2 : wk 9 2 8 6 (aw (aw (aw (aw (aw (aw (aw c0 1 0) 2 1) 3 2) 4 1) 5 0) 6 0) 7 2) = true := by decide +kernel
theorem wk9_0_1_2_1_0_0_3 : wk 9 2 8 7 (aw (aw (aw (aw (aw (aw (aw c0 1 0) 2 1) 3 2) 4 1) 5 0) 6 0) 7 3) = true := by decide +kernel
theorem wk9_0_1_2_1_0_0 : wk 9 3 7 4 (aw (aw (aw (aw (aw (aw c0 1 0) 2 1) 3 2) 4 1) 5 0) 6 0) = true := wk_c (fun v hv => by
  rcases (by omega : v = 0 ∨ v = 1 ∨ v = 2 ∨ v = 3) with rfl | rfl | rfl | rfl
  · exact wk9_0_1_2_1_0_0_0
  · exact wk9_0_1_2_1_0_0_1
  · exact wk9_0_1_2_1_0_0_2
  · exact wk9_0_1_2_1_0_0_3)
theorem wk9_0_1_2_1_0_1_0 : wk 9 2 8 5 (aw (aw (aw (aw (aw (aw (aw c0 1 0) 2 1) 3 2) 4 1) 5 0) 6 1) 7 0) = true := by decide +kernel
theorem wk9_0_1_2_1_0_1_1 : wk 9 2 8 6 (aw (aw (aw (aw (aw (aw (aw c0 1 0) 2 1) 3 2) 4 1) 5 0) 6 1) 7 1) = true := by decide +kernel
theorem wk9_0_1_2_1_0_1_2 : wk 9 2 8 7 (aw (aw (aw (aw (aw (aw (aw c0 1 0) 2 1) 3 2) 4 1) 5 0) 6 1) 7 2) = true := by decide +kernel
theorem wk9_0_1_2_1_0_1 : wk 9 3 7 5 (aw (aw (aw (aw (aw (aw c0 1 0) 2 1) 3 2) 4 1) 5 0) 6 1) = true := wk_c (fun v hv => by
  rcases (by omega : v = 0 ∨ v = 1 ∨ v = 2) with rfl | rfl | rfl
  · exact wk9_0_1_2_1_0_1_0
  · exact wk9_0_1_2_1_0_1_1
  · exact wk9_0_1_2_1_0_1_2)
theorem wk9_0_1_2_1_0_2_0 : wk 9 2 8 6 (aw (aw (aw (aw (aw (aw (aw c0 1 0) 2 1) 3 2) 4 1) 5 0) 6 2) 7 0) = true := by decide +kernel
theorem wk9_0_1_2_1_0_2_1 : wk 9 2 8 7 (aw (aw (aw (aw (aw (aw (aw c0 1 0) 2 1) 3 2) 4 1) 5 0) 6 2) 7 1) = true := by decide +kernel
theorem wk9_0_1_2_1_0_2 : wk 9 3 7 6 (aw (aw (aw (aw (aw (aw c0 1 0) 2 1) 3 2) 4 1) 5 0) 6 2) = true := wk_c (fun v hv => by
  rcases (by omega : v = 0 ∨ v = 1) with rfl | rfl
  · exact wk9_0_1_2_1_0_2_0
  · exact wk9_0_1_2_1_0_2_1)
theorem wk9_0_1_2_1_0 : wk 9 4 6 4 (aw (aw (aw (aw (aw c0 1 0) 2 1) 3 2) 4 1) 5 0) = true := wk_c (fun v hv => by
  rcases (by omega : v = 0 ∨ v = 1 ∨ v = 2) with rfl | rfl | rfl
  · exact wk9_0_1_2_1_0_0
  · exact wk9_0_1_2_1_0_1
  · exact wk9_0_1_2_1_0_2)
theorem wk9_0_1_2_1_1_0_0 : wk 9 2 8 5 (aw (aw (aw (aw (aw (aw (aw c0 1 0) 2 1) 3 2) 4 1) 5 1) 6 0) 7 0) = true := by decide +kernel
theorem wk9_0_1_2_1_1_0_1 : wk 9 2 8 6 (aw (aw (aw (aw (aw (aw (aw c0 1 0) 2 1) 3 2) 4 1) 5 1) 6 0) 7 1) = true := by decide +kernel
theorem wk9_0_1_2_1_1_0_2 : wk 9 2 8 7 (aw (aw (aw (aw (aw (aw (aw c0 1 0) 2 1) 3 2) 4 1) 5 1) 6 0) 7 2) = true := by decide +kernel
theorem wk9_0_1_2_1_1_0 : wk 9 3 7 5 (aw (aw (aw (aw (aw (aw c0 1 0) 2 1) 3 2) 4 1) 5 1) 6 0) = true := wk_c (fun v hv => by
  rcases (by omega : v = 0 ∨ v = 1 ∨ v = 2) with rfl | rfl | rfl
  · exact wk9_0_1_2_1_1_0_0
  · exact wk9_0_1_2_1_1_0_1
  · exact wk9_0_1_2_1_1_0_2)
theorem wk9_0_1_2_1_1_1_0 : wk 9 2 8 6 (aw (aw (aw (aw (aw (aw (aw c0 1 0) 2 1) 3 2) 4 1) 5 1) 6 1) 7 0) = true := by decide +kernel
theorem wk9_0_1_2_1_1_1_1 : wk 9 2 8 7 (aw (aw (aw (aw (aw (aw (aw c0 1 0) 2 1) 3 2) 4 1) 5 1) 6 1) 7 1) = true := by decide +kernel
theorem wk9_0_1_2_1_1_1 : wk 9 3 7 6 (aw (aw (aw (aw (aw (aw c0 1 0) 2 1) 3 2) 4 1) 5 1) 6 1) = true := wk_c (fun v hv => by
  rcases (by omega : v = 0 ∨ v = 1) with rfl | rfl
  · exact wk9_0_1_2_1_1_1_0
  · exact wk9_0_1_2_1_1_1_1)
theorem wk9_0_1_2_1_1 : wk 9 4 6 5 (aw (aw (aw (aw (aw c0 1 0) 2 1) 3 2) 4 1) 5 1) = true := wk_c (fun v hv => by
  rcases (by omega : v = 0 ∨ v = 1) with rfl | rfl
  · exact wk9_0_1_2_1_1_0
  · exact wk9_0_1_2_1_1_1)
theorem wk9_0_1_2_1 : wk 9 5 5 4 (aw (aw (aw (aw c0 1 0) 2 1) 3 2) 4 1) = true := wk_c (fun v hv => by
  rcases (by omega : v = 0 ∨ v = 1) with rfl | rfl
  · exact wk9_0_1_2_1_0
  · exact wk9_0_1_2_1_1)
theorem wk9_0_1_2 : wk 9 6 4 3 (aw (aw (aw c0 1 0) 2 1) 3 2) = true := wk_c (fun v hv => by
  rcases (by omega : v = 0 ∨ v = 1) with rfl | rfl
  · exact wk9_0_1_2_0
  · exact wk9_0_1_2_1)
theorem wk9_0_1 : wk 9 7 3 1 (aw (aw c0 1 0) 2 1) = true := wk_c (fun v hv => by
  rcases (by omega : v = 0 ∨ v = 1 ∨ v = 2) with rfl | rfl | rfl
  · exact wk9_0_1_0
  · exact wk9_0_1_1
  · exact wk9_0_1_2)
theorem wk9_0_2_0_0_0_0_0 : wk 9 2 8 2 (aw (aw (aw (aw (aw (aw (aw c0 1 0) 2 2) 3 0) 4 0) 5 0) 6 0) 7 0) = true := by decide +kernel
theorem wk9_0_2_0_0_0_0_1 : wk 9 2 8 3 (aw (aw (aw (aw (aw (aw (aw c0 1 0) 2 2) 3 0) 4 0) 5 0) 6 0) 7 1) = true := by decide +kernel
theorem wk9_0_2_0_0_0_0_2 : wk 9 2 8 4 (aw (aw (aw (aw (aw (aw (aw c0 1 0) 2 2) 3 0) 4 0) 5 0) 6 0) 7 2) = true := by decide +kernel
theorem wk9_0_2_0_0_0_0_3 : wk 9 2 8 5 (aw (aw (aw (aw (aw (aw (aw c0 1 0) 2 2) 3 0) 4 0) 5 0) 6 0) 7 3) = true := by decide +kernel
theorem wk9_0_2_0_0_0_0_4 : wk 9 2 8 6 (aw (aw (aw (aw (aw (aw (aw c0 1 0) 2 2) 3 0) 4 0) 5 0) 6 0) 7 4) = true := by decide +kernel
theorem wk9_0_2_0_0_0_0_5 : wk 9 2 8 7 (aw (aw (aw (aw (aw (aw (aw c0 1 0) 2 2) 3 0) 4 0) 5 0) 6 0) 7 5) = true := by decide +kernel
theorem wk9_0_2_0_0_0_0 : wk 9 3 7 2 (aw (aw (aw (aw (aw (aw c0 1 0) 2 2) 3 0) 4 0) 5 0) 6 0) = true := wk_c (fun v hv => by
  rcases (by omega : v = 0 ∨ v = 1 ∨ v = 2 ∨ v = 3 ∨ v = 4 ∨ v = 5) with rfl | rfl | rfl | rfl | rfl | rfl
  · exact wk9_0_2_0_0_0_0_0
  · exact wk9_0_2_0_0_0_0_1
  · exact wk9_0_2_0_0_0_0_2
  · exact wk9_0_2_0_0_0_0_3
  · exact wk9_0_2_0_0_0_0_4
  · exact wk9_0_2_0_0_0_0_5)
theorem wk9_0_2_0_0_0_1_0 : wk 9 2 8 3 (aw (aw (aw (aw (aw (aw (aw c0 1 0) 2 2) 3 0) 4 0) 5 0) 6 1) 7 0) = true := by decide +kernel
theorem wk9_0_2_0_0_0_1_1 : wk 9 2 8 4 (aw (aw (aw (aw (aw (aw (aw c0 1 0) 2 2) 3 0) 4 0) 5 0) 6 1) 7 1) = true := by decide +kernel
theorem wk9_0_2_0_0_0_1_2 : wk 9 2 8 5 (aw (aw (aw (aw (aw (aw (aw c0 1 0) 2 2) 3 0) 4 0) 5 0) 6 1) 7 2) = true := by decide +kernel
theorem wk9_0_2_0_0_0_1_3 : wk 9 2 8 6 (aw (aw (aw (aw (aw (aw (aw c0 1 0) 2 2) 3 0) 4 0) 5 0) 6 1) 7 3) = true := by decide +kernel
theorem wk9_0_2_0_0_0_1_4 : wk 9 2 8 7 (aw (aw (aw (aw (aw (aw (aw c0 1 0) 2 2) 3 0) 4 0) 5 0) 6 1) 7 4) = true := by decide +kernel
theorem wk9_0_2_0_0_0_1 : wk 9 3 7 3 (aw (aw (aw (aw (aw (aw c0 1 0) 2 2) 3 0) 4 0) 5 0) 6 1) = true := wk_c (fun v hv => by
  rcases (by omega : v = 0 ∨ v = 1 ∨ v = 2 ∨ v = 3 ∨ v = 4) with rfl | rfl | rfl | rfl | rfl
  · exact wk9_0_2_0_0_0_1_0
  · exact wk9_0_2_0_0_0_1_1
  · exact wk9_0_2_0_0_0_1_2
  · exact wk9_0_2_0_0_0_1_3
  · exact wk9_0_2_0_0_0_1_4)
theorem wk9_0_2_0_0_0_2_0 : wk 9 2 8 4 (aw (aw (aw (aw (aw (aw (aw c0 1 0) 2 2) 3 0) 4 0) 5 0) 6 2) 7 0) = true := by decide +kernel
theorem wk9_0_2_0_0_0_2_1 : wk 9 2 8 5 (aw (aw (aw (aw (aw (aw (aw c0 1 0) 2 2) 3 0) 4 0) 5 0) 6 2) 7 1) = true := by decide +kernel
theorem wk9_0_2_0_0_0_2_2 : wk 9 2 8 6 (aw (aw (aw (aw (aw (aw (aw c0 1 0) 2 2) 3 0) 4 0) 5 0) 6 2) 7 2) = true := by decide +kernel
theorem wk9_0_2_0_0_0_2_3 : wk 9 2 8 7 (aw (aw (aw (aw (aw (aw (aw c0 1 0) 2 2) 3 0) 4 0) 5 0) 6 2) 7 3) = true := by decide +kernel
theorem wk9_0_2_0_0_0_2 : wk 9 3 7 4 (aw (aw (aw (aw (aw (aw c0 1 0) 2 2) 3 0) 4 0) 5 0) 6 2) = true := wk_c (fun v hv => by
  rcases (by omega : v = 0 ∨ v = 1 ∨ v = 2 ∨ v = 3) with rfl | rfl | rfl | rfl
  · exact wk9_0_2_0_0_0_2_0
  · exact wk9_0_2_0_0_0_2_1
  · exact wk9_0_2_0_0_0_2_2
  · exact wk9_0_2_0_0_0_2_3)
theorem wk9_0_2_0_0_0_3_0 : wk 9 2 8 5 (aw (aw (aw (aw (aw (aw (aw c0 1 0) 2 2) 3 0) 4 0) 5 0) 6 3) 7 0) = true := by decide +kernel
theorem wk9_0_2_0_0_0_3_1 : wk 9 2 8 6 (aw (aw (aw (aw (aw (aw (aw c0 1 0) 2 2) 3 0) 4 0) 5 0) 6 3) 7 1) = true := by decide +kernel
theorem wk9_0_2_0_0_0_3_2 : wk 9 2 8 7 (aw (aw (aw (aw (aw (aw (aw c0 1 0) 2 2) 3 0) 4 0) 5 0) 6 3) 7 2) = true := by decide +kernel
theorem wk9_0_2_0_0_0_3 : wk 9 3 7 5 (aw (aw (aw (aw (aw (aw c0 1 0) 2 2) 3 0) 4 0) 5 0) 6 3) = true := wk_c (fun v hv => by
  rcases (by omega : v = 0 ∨ v = 1 ∨ v = 2) with rfl | rfl | rfl
  · exact wk9_0_2_0_0_0_3_0
  · exact wk9_0_2_0_0_0_3_1
  · exact wk9_0_2_0_0_0_3_2)
theorem wk9_0_2_0_0_0_4_0 : wk 9 2 8 6 (aw (aw (aw (aw (aw (aw (aw c0 1 0) 2 2) 3 0) 4 0) 5 0) 6 4) 7 0) = true := by decide +kernel
theorem wk9_0_2_0_0_0_4_1 : wk 9 2 8 7 (aw (aw (aw (aw (aw (aw (aw c0 1 0) 2 2) 3 0) 4 0) 5 0) 6 4) 7 1) = true := by decide +kernel
theorem wk9_0_2_0_0_0_4 : wk 9 3 7 6 (aw (aw (aw (aw (aw (aw c0 1 0) 2 2) 3 0) 4 0) 5 0) 6 4) = true := wk_c (fun v hv => by
  rcases (by omega : v = 0 ∨ v = 1) with rfl | rfl
  · exact wk9_0_2_0_0_0_4_0
  · exact wk9_0_2_0_0_0_4_1)
theorem wk9_0_2_0_0_0 : wk 9 4 6 2 (aw (aw (aw (aw (aw c0 1 0) 2 2) 3 0) 4 0) 5 0) = true := wk_c (fun v hv => by
  rcases (by omega : v = 0 ∨ v = 1 ∨ v = 2 ∨ v = 3 ∨ v = 4) with rfl | rfl | rfl | rfl | rfl
  · exact wk9_0_2_0_0_0_0
  · exact wk9_0_2_0_0_0_1
  · exact wk9_0_2_0_0_0_2
  · exact wk9_0_2_0_0_0_3
  · exact wk9_0_2_0_0_0_4)
theorem wk9_0_2_0_0_1_0_0 : wk 9 2 8 3 (aw (aw (aw (aw (aw (aw (aw c0 1 0) 2 2) 3 0) 4 0) 5 1) 6 0) 7 0) = true := by decide +kernel
theorem wk9_0_2_0_0_1_0_1 : wk 9 2 8 4 (aw (aw (aw (aw (aw (aw (aw c0 1 0) 2 2) 3 0) 4 0) 5 1) 6 0) 7 1) = true := by decide +kernel
theorem wk9_0_2_0_0_1_0_2 : wk 9 2 8 5 (aw (aw (aw (aw (aw (aw (aw c0 1 0) 2 2) 3 0) 4 0) 5 1) 6 0) 7 2) = true := by decide +kernel
theorem wk9_0_2_0_0_1_0_3 : wk 9 2 8 6 (aw (aw (aw (aw (aw (aw (aw c0 1 0) 2 2) 3 0) 4 0) 5 1) 6 0) 7 3) = true := by decide +kernel
theorem wk9_0_2_0_0_1_0_4 : wk 9 2 8 7 (aw (aw (aw (aw (aw (aw (aw c0 1 0) 2 2) 3 0) 4 0) 5 1) 6 0) 7 4) = true := by decide +kernel
theorem wk9_0_2_0_0_1_0 : wk 9 3 7 3 (aw (aw (aw (aw (aw (aw c0 1 0) 2 2) 3 0) 4 0) 5 1) 6 0) = true := wk_c (fun v hv => by
  rcases (by omega : v = 0 ∨ v = 1 ∨ v = 2 ∨ v = 3 ∨ v = 4) with rfl | rfl | rfl | rfl | rfl
  · exact wk9_0_2_0_0_1_0_0
  · exact wk9_0_2_0_0_1_0_1
  · exact wk9_0_2_0_0_1_0_2
  · exact wk9_0_2_0_0_1_0_3
  · exact wk9_0_2_0_0_1_0_4)
theorem wk9_0_2_0_0_1_1_0 : wk 9 2 8 4 (aw (aw (aw (aw (aw (aw (aw c0 1 0) 2 2) 3 0) 4 0) 5 1) 6 1) 7 0) = true := by decide +kernel
theorem wk9_0_2_0_0_1_1_1 : wk 9 2 8 5 (aw (aw (aw (aw (aw (aw (aw c0 1 0) 2 2) 3 0) 4 0) 5 1) 6 1) 7 1) = true := by decide +kernel
theorem wk9_0_2_0_0_1_1_2 : wk 9 2 8 6 (aw (aw (aw (aw (aw (aw (aw c0 1 0) 2 2) 3 0) 4 0) 5 1) 6 1) 7 2) = true := by decide +kernel
theorem wk9_0_2_0_0_1_1_3 : wk 9 2 8 7 (aw (aw (aw (aw (aw (aw (aw c0 1 0) 2 2) 3 0) 4 0) 5 1) 6 1) 7 3) = true := by decide +kernel
theorem wk9_0_2_0_0_1_1 : wk 9 3 7 4 (aw (aw (aw (aw (aw (aw c0 1 0) 2 2) 3 0) 4 0) 5 1) 6 1) = true := wk_c (fun v hv => by
  rcases (by omega : v = 0 ∨ v = 1 ∨ v = 2 ∨ v = 3) with rfl | rfl | rfl | rfl
  · exact wk9_0_2_0_0_1_1_0
  · exact wk9_0_2_0_0_1_1_1
  · exact wk9_0_2_0_0_1_1_2
  · exact wk9_0_2_0_0_1_1_3)
theorem wk9_0_2_0_0_1_2_0 : wk 9 2 8 5 (aw (aw (aw (aw (aw (aw (aw c0 1 0) 2 2) 3 0) 4 0) 5 1) 6 2) 7 0) = true := by decide +kernel
theorem wk9_0_2_0_0_1_2_1 : wk 9 2 8 6 (aw (aw (aw (aw (aw (aw (aw c0 1 0) 2 2) 3 0) 4 0) 5 1) 6 2) 7 1) = true := by decide +kernel
theorem wk9_0_2_0_0_1_2_2 : wk 9 2 8 7 (aw (aw (aw (aw (aw (aw (aw c0 1 0) 2 2) 3 0) 4 0) 5 1) 6 2) 7 2) = true := by decide +kernel
theorem wk9_0_2_0_0_1_2 : wk 9 3 7 5 (aw (aw (aw (aw (aw (aw c0 1 0) 2 2) 3 0) 4 0) 5 1) 6 2) = true := wk_c (fun v hv => by
  rcases (by omega : v = 0 ∨ v = 1 ∨ v = 2) with rfl | rfl | rfl
  · exact wk9_0_2_0_0_1_2_0
  · exact wk9_0_2_0_0_1_2_1
  · exact wk9_0_2_0_0_1_2_2)
theorem wk9_0_2_0_0_1_3_0 : wk 9 2 8 6 (aw (aw (aw (aw (aw (aw (aw c0 1 0) 2 2) 3 0) 4 0) 5 1) 6 3) 7 0) = true := by decide +kernel
theorem wk9_0_2_0_0_1_3_1 : wk 9 2 8 7 (aw (aw (aw (aw (aw (aw (aw c0 1 0) 2 2) 3 0) 4 0) 5 1) 6 3) 7 1) = true := by decide +kernel
theorem wk9_0_2_0_0_1_3 : wk 9 3 7 6 (aw (aw (aw (aw (aw (aw c0 1 0) 2 2) 3 0) 4 0) 5 1) 6 3) = true := wk_c (fun v hv => by
  rcases (by omega : v = 0 ∨ v = 1) with rfl | rfl
  · exact wk9_0_2_0_0_1_3_0
  · exact wk9_0_2_0_0_1_3_1)
theorem wk9_0_2_0_0_1 : wk 9 4 6 3 (aw (aw (aw (aw (aw c0 1 0) 2 2) 3 0) 4 0) 5 1) = true := wk_c (fun v hv => by
  rcases (by omega : v = 0 ∨ v = 1 ∨ v = 2 ∨ v = 3) with rfl | rfl | rfl | rfl
  · exact wk9_0_2_0_0_1_0
  · exact wk9_0_2_0_0_1_1
  · exact wk9_0_2_0_0_1_2
  · exact wk9_0_2_0_0_1_3)
theorem wk9_0_2_0_0_2_0_0 : wk 9 2 8 4 (aw (aw (aw (aw (aw (aw (aw c0 1 0) 2 2) 3 0) 4 0) 5 2) 6 0) 7 0) = true := by decide +kernel
theorem wk9_0_2_0_0_2_0_1 : wk 9 2 8 5 (aw (aw (aw (aw (aw (aw (aw c0 1 0) 2 2) 3 0) 4 0) 5 2) 6 0) 7 1) = true := by decide +kernel
theorem wk9_0_2_0_0_2_0_2 : wk 9 2 8 6 (aw (aw (aw (aw (aw (aw (aw c0 1 0) 2 2) 3 0) 4 0) 5 2) 6 0) 7 2) = true := by decide +kernel
theorem wk9_0_2_0_0_2_0_3 : wk 9 2 8 7 (aw (aw (aw (aw (aw (aw (aw c0 1 0) 2 2) 3 0) 4 0) 5 2) 6 0) 7 3) = true := by decide +kernel
theorem wk9_0_2_0_0_2_0 : wk 9 3 7 4 (aw (aw (aw (aw (aw (aw c0 1 0) 2 2) 3 0) 4 0) 5 2) 6 0) = true := wk_c (fun v hv => by
  rcases (by omega : v = 0 ∨ v = 1 ∨ v = 2 ∨ v = 3) with rfl | rfl | rfl | rfl
  · exact wk9_0_2_0_0_2_0_0
  · exact wk9_0_2_0_0_2_0_1
  · exact wk9_0_2_0_0_2_0_2
  · exact wk9_0_2_0_0_2_0_3)
theorem wk9_0_2_0_0_2_1_0 : wk 9 2 8 5 (aw (aw (aw (aw (aw (aw (aw c0 1 0) 2 2) 3 0) 4 0) 5 2) 6 1) 7 0) = true := by decide +kernel
theorem wk9_0_2_0_0_2_1_1 : wk 9 2 8 6 (aw (aw (aw (aw (aw (aw (aw c0 1 0) 2 2) 3 0) 4 0) 5 2) 6 1) 7 1) = true := by decide +kernel
theorem wk9_0_2_0_0_2_1_2 : wk 9 2 8 7 (aw (aw (aw (aw (aw (aw (aw c0 1 0) 2 2) 3 0) 4 0) 5 2) 6 1) 7 2) = true := by decide +kernel
theorem wk9_0_2_0_0_2_1 : wk 9 3 7 5 (aw (aw (aw (aw (aw (aw c0 1 0) 2 2) 3 0) 4 0) 5 2) 6 1) = true := wk_c (fun v hv => by
  rcases (by omega : v = 0 ∨ v = 1 ∨ v = 2) with rfl | rfl | rfl
  · exact wk9_0_2_0_0_2_1_0
  · exact wk9_0_2_0_0_2_1_1
  · exact wk9_0_2_0_0_2_1_2)
theorem wk9_0_2_0_0_2_2_0 : wk 9 2 8 6 (aw (aw (aw (aw (aw (aw (aw c0 1 0) 2 2) 3 0) 4 0) 5 2) 6 2) 7 0) = true := by decide +kernel
theorem wk9_0_2_0_0_2_2_1 : wk 9 2 8 7 (aw (aw (aw (aw (aw (aw (aw c0 1 0) 2 2) 3 0) 4 0) 5 2) 6 2) 7 1) = true := by decide +kernel
theorem wk9_0_2_0_0_2_2 : wk 9 3 7 6 (aw (aw (aw (aw (aw (aw c0 1 0) 2 2) 3 0) 4 0) 5 2) 6 2) = true := wk_c (fun v hv => by
  rcases (by omega : v = 0 ∨ v = 1) with rfl | rfl
  · exact wk9_0_2_0_0_2_2_0
  · exact wk9_0_2_0_0_2_2_1)
theorem wk9_0_2_0_0_2 : wk 9 4 6 4 (aw (aw (aw (aw (aw c0 1 0) 2 2) 3 0) 4 0) 5 2) = true := wk_c (fun v hv => by
  rcases (by omega : v = 0 ∨ v = 1 ∨ v = 2) with rfl | rfl | rfl
  · exact wk9_0_2_0_0_2_0
  · exact wk9_0_2_0_0_2_1
  · exact wk9_0_2_0_0_2_2)
theorem wk9_0_2_0_0_3_0_0 : wk 9 2 8 5 (aw (aw (aw (aw (aw (aw (aw c0 1 0) 2 2) 3 0) 4 0) 5 3) 6 0) 7 0) = true := by decide +kernel
theorem wk9_0_2_0_0_3_0_1 : wk 9 2 8 6 (aw (aw (aw (aw (aw (aw (aw c0 1 0) 2 2) 3 0) 4 0) 5 3) 6 0) 7 1) = true := by decide +kernel
theorem wk9_0_2_0_0_3_0_2 : wk 9 2 8 7 (aw (aw (aw (aw (aw (aw (aw c0 1 0) 2 2) 3 0) 4 0) 5 3) 6 0) 7 2) = true := by decide +kernel
theorem wk9_0_2_0_0_3_0 : wk 9 3 7 5 (aw (aw (aw (aw (aw (aw c0 1 0) 2 2) 3 0) 4 0) 5 3) 6 0) = true := wk_c (fun v hv => by
  rcases (by omega : v = 0 ∨ v = 1 ∨ v = 2) with rfl | rfl | rfl
  · exact wk9_0_2_0_0_3_0_0
  · exact wk9_0_2_0_0_3_0_1
  · exact wk9_0_2_0_0_3_0_2)
theorem wk9_0_2_0_0_3_1_0 : wk 9 2 8 6 (aw (aw (aw (aw (aw (aw (aw c0 1 0) 2 2) 3 0) 4 0) 5 3) 6 1) 7 0) = true := by decide +kernel
theorem wk9_0_2_0_0_3_1_1 : wk 9 2 8 7 (aw (aw (aw (aw (aw (aw (aw c0 1 0) 2 2) 3 0) 4 0) 5 3) 6 1) 7 1) = true := by decide +kernel
theorem wk9_0_2_0_0_3_1 : wk 9 3 7 6 (aw (aw (aw (aw (aw (aw c0 1 0) 2 2) 3 0) 4 0) 5 3) 6 1) = true := wk_c (fun v hv => by
  rcases (by omega : v = 0 ∨ v = 1) with rfl | rfl
  · exact wk9_0_2_0_0_3_1_0
  · exact wk9_0_2_0_0_3_1_1)
theorem wk9_0_2_0_0_3 : wk 9 4 6 5 (aw (aw (aw (aw (aw c0 1 0) 2 2) 3 0) 4 0) 5 3) = true := wk_c (fun v hv => by
  rcases (by omega : v = 0 ∨ v = 1) with rfl | rfl
  · exact wk9_0_2_0_0_3_0
  · exact wk9_0_2_0_0_3_1)
theorem wk9_0_2_0_0 : wk 9 5 5 2 (aw (aw (aw (aw c0 1 0) 2 2) 3 0) 4 0) = true := wk_c (fun v hv => by
  rcases (by omega : v = 0 ∨ v = 1 ∨ v = 2 ∨ v = 3) with rfl | rfl | rfl | rfl
  · exact wk9_0_2_0_0_0
  · exact wk9_0_2_0_0_1
  · exact wk9_0_2_0_0_2
  · exact wk9_0_2_0_0_3)
theorem wk9_0_2_0_1_0_0_0 : wk 9 2 8 3 (aw (aw (aw (aw (aw (aw (aw c0 1 0) 2 2) 3 0) 4 1) 5 0) 6 0) 7 0) = true := by decide +kernel
theorem wk9_0_2_0_1_0_0_1 : wk 9 2 8 4 (aw (aw (aw (aw (aw (aw (aw c0 1 0) 2 2) 3 0) 4 1) 5 0) 6 0) 7 1) = true := by decide +kernel
theorem wk9_0_2_0_1_0_0_2 : wk 9 2 8 5 (aw (aw (aw (aw (aw (aw (aw c0 1 0) 2 2) 3 0) 4 1) 5 0) 6 0) 7 2) = true := by decide +kernel
theorem wk9_0_2_0_1_0_0_3 : wk 9 2 8 6 (aw (aw (aw (aw (aw (aw (aw c0 1 0) 2 2) 3 0) 4 1) 5 0) 6 0) 7 3) = true := by decide +kernel
theorem wk9_0_2_0_1_0_0_4 : wk 9 2 8 7 (aw (aw (aw (aw (aw (aw (aw c0 1 0) 2 2) 3 0) 4 1) 5 0) 6 0) 7 4) = true := by decide +kernel
theorem wk9_0_2_0_1_0_0 : wk 9 3 7 3 (aw (aw (aw (aw (aw (aw c0 1 0) 2 2) 3 0) 4 1) 5 0) 6 0) = true := wk_c (fun v hv => by
  rcases (by omega : v = 0 ∨ v = 1 ∨ v = 2 ∨ v = 3 ∨ v = 4) with rfl | rfl | rfl | rfl | rfl
  · exact wk9_0_2_0_1_0_0_0
  · exact wk9_0_2_0_1_0_0_1
  · exact wk9_0_2_0_1_0_0_2
  · exact wk9_0_2_0_1_0_0_3
  · exact wk9_0_2_0_1_0_0_4)
theorem wk9_0_2_0_1_0_1_0 : wk 9 2 8 4 (aw (aw (aw (aw (aw (aw (aw c0 1 0) 2 2) 3 0) 4 1) 5 0) 6 1) 7 0) = true := by decide +kernel
theorem wk9_0_2_0_1_0_1_1 : wk 9 2 8 5 (aw (aw (aw (aw (aw (aw (aw c0 1 0) 2 2) 3 0) 4 1) 5 0) 6 1) 7 1) = true := by decide +kernel
theorem wk9_0_2_0_1_0_1_2 : wk 9 2 8 6 (aw (aw (aw (aw (aw (aw (aw c0 1 0) 2 2) 3 0) 4 1) 5 0) 6 1) 7 2) = true := by decide +kernel
theorem wk9_0_2_0_1_0_1_3 : wk 9 2 8 7 (aw (aw (aw (aw (aw (aw (aw c0 1 0) 2 2) 3 0) 4 1) 5 0) 6 1) 7 3) = true := by decide +kernel
theorem wk9_0_2_0_1_0_1 : wk 9 3 7 4 (aw (aw (aw (aw (aw (aw c0 1 0) 2 2) 3 0) 4 1) 5 0) 6 1) = true := wk_c (fun v hv => by
  rcases (by omega : v = 0 ∨ v = 1 ∨ v = 2 ∨ v = 3) with rfl | rfl | rfl | rfl
  · exact wk9_0_2_0_1_0_1_0
  · exact wk9_0_2_0_1_0_1_1
  · exact wk9_0_2_0_1_0_1_2
  · exact wk9_0_2_0_1_0_1_3)
theorem wk9_0_2_0_1_0_2_0 : wk 9 2 8 5 (aw (aw (aw (aw (aw (aw (aw c0 1 0) 2 2) 3 0) 4 1) 5 0) 6 2) 7 0) = true := by decide +kernel
theorem wk9_0_2_0_1_0_2_1 : wk 9 2 8 6 (aw (aw (aw (aw (aw (aw (aw c0 1 0) 2 2) 3 0) 4 1) 5 0) 6 2) 7 1) = true := by decide +kernel
theorem wk9_0_2_0_1_0_2_2 : wk 9 2 8 7 (aw (aw (aw (aw (aw (aw (aw c0 1 0) 2 2) 3 0) 4 1) 5 0) 6 2) 7 2) = true := by decide +kernel
theorem wk9_0_2_0_1_0_2 : wk 9 3 7 5 (aw (aw (aw (aw (aw (aw c0 1 0) 2 2) 3 0) 4 1) 5 0) 6 2) = true := wk_c (fun v hv => by
  rcases (by omega : v = 0 ∨ v = 1 ∨ v = 2) with rfl | rfl | rfl
  · exact wk9_0_2_0_1_0_2_0
  · exact wk9_0_2_0_1_0_2_1
  · exact wk9_0_2_0_1_0_2_2)
theorem wk9_0_2_0_1_0_3_0 : wk 9 2 8 6 (aw (aw (aw (aw (aw (aw (aw c0 1 0) 2 2) 3 0) 4 1) 5 0) 6 3) 7 0) = true := by decide +kernel
theorem wk9_0_2_0_1_0_3_1 : wk 9 2 8 7 (aw (aw (aw (aw (aw (aw (aw c0 1 0) 2 2) 3 0) 4 1) 5 0) 6 3) 7 1) = true := by decide +kernel
theorem wk9_0_2_0_1_0_3 : wk 9 3 7 6 (aw (aw (aw (aw (aw (aw c0 1 0) 2 2) 3 0) 4 1) 5 0) 6 3) = true := wk_c (fun v hv => by
  rcases (by omega : v = 0 ∨ v = 1) with rfl | rfl
  · exact wk9_0_2_0_1_0_3_0
  · exact wk9_0_2_0_1_0_3_1)
theorem wk9_0_2_0_1_0 : wk 9 4 6 3 (aw (aw (aw (aw (aw c0 1 0) 2 2) 3 0) 4 1) 5 0) = true := wk_c (fun v hv => by
  rcases (by omega : v = 0 ∨ v = 1 ∨ v = 2 ∨ v = 3) with rfl | rfl | rfl | rfl
  · exact wk9_0_2_0_1_0_0
  · exact wk9_0_2_0_1_0_1
  · exact wk9_0_2_0_1_0_2
  · exact wk9_0_2_0_1_0_3)
theorem wk9_0_2_0_1_1_0_0 : wk 9 2 8 4 (aw (aw (aw (aw (aw (aw (aw c0 1 0) 2 2) 3 0) 4 1) 5 1) 6 0) 7 0) = true := by decide +kernel
theorem wk9_0_2_0_1_1_0_1 : wk 9 2 8 5 (aw (aw (aw (aw (aw (aw (aw c0 1 0) 2 2) 3 0) 4 1) 5 1) 6 0) 7 1) = true := by decide +kernel
theorem wk9_0_2_0_1_1_0_2 : wk 9 2 8 6 (aw (aw (aw (aw (aw (aw (aw c0 1 0) 2 2) 3 0) 4 1) 5 1) 6 0) 7 2) = true := by decide +kernel
theorem wk9_0_2_0_1_1_0_3 : wk 9 2 8 7 (aw (aw (aw (aw (aw (aw (aw c0 1 0) 2 2) 3 0) 4 1) 5 1) 6 0) 7 3) = true := by decide +kernel
theorem wk9_0_2_0_1_1_0 : wk 9 3 7 4 (aw (aw (aw (aw (aw (aw c0 1 0) 2 2) 3 0) 4 1) 5 1) 6 0) = true := wk_c (fun v hv => by
  rcases (by omega : v = 0 ∨ v = 1 ∨ v = 2 ∨ v = 3) with rfl | rfl | rfl | rfl
  · exact wk9_0_2_0_1_1_0_0
  · exact wk9_0_2_0_1_1_0_1
  · exact wk9_0_2_0_1_1_0_2
  · exact wk9_0_2_0_1_1_0_3)
theorem wk9_0_2_0_1_1_1_0 : wk 9 2 8 5 (aw (aw (aw (aw (aw (aw (aw c0 1 0) 2 2) 3 0) 4 1) 5 1) 6 1) 7 0) = true := by decide +kernel
theorem wk9_0_2_0_1_1_1_1 : wk 9 2 8 6 (aw (aw (aw (aw (aw (aw (aw c0 1 0) 2 2) 3 0) 4 1) 5 1) 6 1) 7 1) = true := by decide +kernel
theorem wk9_0_2_0_1_1_1_2 : wk 9 2 8 7 (aw (aw (aw (aw (aw (aw (aw c0 1 0) 2 2) 3 0) 4 1) 5 1) 6 1) 7 2) = true := by decide +kernel
theorem wk9_0_2_0_1_1_1 : wk 9 3 7 5 (aw (aw (aw (aw (aw (aw c0 1 0) 2 2) 3 0) 4 1) 5 1) 6 1) = true := wk_c (fun v hv => by
  rcases (by omega : v = 0 ∨ v = 1 ∨ v = 2) with rfl | rfl | rfl
  · exact wk9_0_2_0_1_1_1_0
  · exact wk9_0_2_0_1_1_1_1
  · exact wk9_0_2_0_1_1_1_2)
theorem wk9_0_2_0_1_1_2_0 : wk 9 2 8 6 (aw (aw (aw (aw (aw (aw (aw c0 1 0) 2 2) 3 0) 4 1) 5 1) 6 2) 7 0) = true := by decide +kernel
theorem wk9_0_2_0_1_1_2_1 : wk 9 2 8 7 (aw (aw (aw (aw (aw (aw (aw c0 1 0) 2 2) 3 0) 4 1) 5 1) 6 2) 7 1) = true := by decide +kernel
theorem wk9_0_2_0_1_1_2 : wk 9 3 7 6 (aw (aw (aw (aw (aw (aw c0 1 0) 2 2) 3 0) 4 1) 5 1) 6 2) = true := wk_c (fun v hv => by
  rcases (by omega : v = 0 ∨ v = 1) with rfl | rfl
  · exact wk9_0_2_0_1_1_2_0
  · exact wk9_0_2_0_1_1_2_1)
theorem wk9_0_2_0_1_1 : wk 9 4 6 4 (aw (aw (aw (aw (aw c0 1 0) 2 2) 3 0) 4 1) 5 1) = true := wk_c (fun v hv => by
  rcases (by omega : v = 0 ∨ v = 1 ∨ v = 2) with rfl | rfl | rfl
  · exact wk9_0_2_0_1_1_0
  · exact wk9_0_2_0_1_1_1
  · exact wk9_0_2_0_1_1_2)
theorem wk9_0_2_0_1_2_0_0 : wk 9 2 8 5 (aw (aw (aw (aw (aw (aw (aw c0 1 0) 2 2) 3 0) 4 1) 5 2) 6 0) 7 0) = true := by decide +kernel
theorem wk9_0_2_0_1_2_0_1 : wk 9 2 8 6 (aw (aw (aw (aw (aw (aw (aw c0 1 0) 2 2) 3 0) 4 1) 5 2) 6 0) 7 1) = true := by decide +kernel
theorem wk9_0_2_0_1_2_0_2 : wk 9 2 8 7 (aw (aw (aw (aw (aw (aw (aw c0 1 0) 2 2) 3 0) 4 1) 5 2) 6 0) 7 2) = true := by decide +kernel
theorem wk9_0_2_0_1_2_0 : wk 9 3 7 5 (aw (aw (aw (aw (aw (aw c0 1 0) 2 2) 3 0) 4 1) 5 2) 6 0) = true := wk_c (fun v hv => by
  rcases (by omega : v = 0 ∨ v = 1 ∨ v = 2) with rfl | rfl | rfl
  · exact wk9_0_2_0_1_2_0_0
  · exact wk9_0_2_0_1_2_0_1
  · exact wk9_0_2_0_1_2_0_2)
theorem wk9_0_2_0_1_2_1_0 : wk 9 2 8 6 (aw (aw (aw (aw (aw (aw (aw c0 1 0) 2 2) 3 0) 4 1) 5 2) 6 1) 7 0) = true := by decide +kernel
theorem wk9_0_2_0_1_2_1_1 : wk 9 2 8 7 (aw (aw (aw (aw (aw (aw (aw c0 1 0) 2 2) 3 0) 4 1) 5 2) 6 1) 7 1) = true := by decide +kernel
theorem wk9_0_2_0_1_2_1 : wk 9 3 7 6 (aw (aw (aw (aw (aw (aw c0 1 0) 2 2) 3 0) 4 1) 5 2) 6 1) = true := wk_c (fun v hv => by
  rcases (by omega : v = 0 ∨ v = 1) with rfl | rfl
  · exact wk9_0_2_0_1_2_1_0
  · exact wk9_0_2_0_1_2_1_1)
theorem wk9_0_2_0_1_2 : wk 9 4 6 5 (aw (aw (aw (aw (aw c0 1 0) 2 2) 3 0) 4 1) 5 2) = true := wk_c (fun v hv => by
  rcases (by omega : v = 0 ∨ v = 1) with rfl | rfl
  · exact wk9_0_2_0_1_2_0
  · exact wk9_0_2_0_1_2_1)
theorem wk9_0_2_0_1 : wk 9 5 5 3 (aw (aw (aw (aw c0 1 0) 2 2) 3 0) 4 1) = true := wk_c (fun v hv => by
  rcases (by omega : v = 0 ∨ v = 1 ∨ v = 2) with rfl | rfl | rfl
  · exact wk9_0_2_0_1_0
  · exact wk9_0_2_0_1_1
  · exact wk9_0_2_0_1_2)
theorem wk9_0_2_0_2_0_0_0 : wk 9 2 8 4 (aw (aw (aw (aw (aw (aw (aw c0 1 0) 2 2) 3 0) 4 2) 5 0) 6 0) 7 0) = true := by decide +kernel
theorem wk9_0_2_0_2_0_0_1 : wk 9 2 8 5 (aw (aw (aw (aw (aw (aw (aw c0 1 0) 2 2) 3 0) 4 2) 5 0) 6 0) 7 1) = true := by decide +kernel
theorem wk9_0_2_0_2_0_0_2 : wk 9 2 8 6 (aw (aw (aw (aw (aw (aw (aw c0 1 0) 2 2) 3 0) 4 2) 5 0) 6 0) 7 2) = true := by decide +kernel
theorem wk9_0_2_0_2_0_0_3 : wk 9 2 8 7 (aw (aw (aw (aw (aw (aw (aw c0 1 0) 2 2) 3 0) 4 2) 5 0) 6 0) 7 3) = true := by decide +kernel
theorem wk9_0_2_0_2_0_0 : wk 9 3 7 4 (aw (aw (aw (aw (aw (aw c0 1 0) 2 2) 3 0) 4 2) 5 0) 6 0) = true := wk_c (fun v hv => by
  rcases (by omega : v = 0 ∨ v = 1 ∨ v = 2 ∨ v = 3) with rfl | rfl | rfl | rfl
  · exact wk9_0_2_0_2_0_0_0
  · exact wk9_0_2_0_2_0_0_1
  · exact wk9_0_2_0_2_0_0_2
  · exact wk9_0_2_0_2_0_0_3)
theorem wk9_0_2_0_2_0_1_0 : wk 9 2 8 5 (aw (aw (aw (aw (aw (aw (aw c0 1 0) 2 2) 3 0) 4 2) 5 0) 6 1) 7 0) = true := by decide +kernel
theorem wk9_0_2_0_2_0_1_1 : wk 9 2 8 6 (aw (aw (aw (aw (aw (aw (aw c0 1 0) 2 2) 3 0) 4 2) 5 0) 6 1) 7 1) = true := by decide +kernel
theorem wk9_0_2_0_2_0_1_2 : wk 9 2 8 7 (aw (aw (aw (aw (aw (aw (aw c0 1 0) 2 2) 3 0) 4 2) 5 0) 6 1) 7 2) = true := by decide +kernel
theorem wk9_0_2_0_2_0_1 : wk 9 3 7 5 (aw (aw (aw (aw (aw (aw c0 1 0) 2 2) 3 0) 4 2) 5 0) 6 1) = true := wk_c (fun v hv => by
  rcases (by omega : v = 0 ∨ v = 1 ∨ v = 2) with rfl | rfl | rfl
  · exact wk9_0_2_0_2_0_1_0
  · exact wk9_0_2_0_2_0_1_1
  · exact wk9_0_2_0_2_0_1_2)
theorem wk9_0_2_0_2_0_2_0 : wk 9 2 8 6 (aw (aw (aw (aw (aw (aw (aw c0 1 0) 2 2) 3 0) 4 2) 5 0) 6 2) 7 0) = true := by decide +kernel
theorem wk9_0_2_0_2_0_2_1 : wk 9 2 8 7 (aw (aw (aw (aw (aw (aw (aw c0 1 0) 2 2) 3 0) 4 2) 5 0) 6 2) 7 1) = true := by decide +kernel
theorem wk9_0_2_0_2_0_2 : wk 9 3 7 6 (aw (aw (aw (aw (aw (aw c0 1 0) 2 2) 3 0) 4 2) 5 0) 6 2) = true := wk_c (fun v hv => by
  rcases (by omega : v = 0 ∨ v = 1) with rfl | rfl
  · exact wk9_0_2_0_2_0_2_0
  · exact wk9_0_2_0_2_0_2_1)
theorem wk9_0_2_0_2_0 : wk 9 4 6 4 (aw (aw (aw (aw (aw c0 1 0) 2 2) 3 0) 4 2) 5 0) = true := wk_c (fun v hv => by
  rcases (by omega : v = 0 ∨ v = 1 ∨ v = 2) with rfl | rfl | rfl
  · exact wk9_0_2_0_2_0_0
  · exact wk9_0_2_0_2_0_1
  · exact wk9_0_2_0_2_0_2)
theorem wk9_0_2_0_2_1_0_0 : wk 9 2 8 5 (aw (aw (aw (aw (aw (aw (aw c0 1 0) 2 2) 3 0) 4 2) 5 1) 6 0) 7 0) = true := by decide +kernel
theorem wk9_0_2_0_2_1_0_1 : wk 9 2 8 6 (aw (aw (aw (aw (aw (aw (aw c0 1 0) 2 2) 3 0) 4 2) 5 1) 6 0) 7 1) = true := by decide +kernel
theorem wk9_0_2_0_2_1_0_2 : wk 9 2 8 7 (aw (aw (aw (aw (aw (aw (aw c0 1 0) 2 2) 3 0) 4 2) 5 1) 6 0) 7 2) = true := by decide +kernel
theorem wk9_0_2_0_2_1_0 : wk 9 3 7 5 (aw (aw (aw (aw (aw (aw c0 1 0) 2 2) 3 0) 4 2) 5 1) 6 0) = true := wk_c (fun v hv => by
  rcases (by omega : v = 0 ∨ v = 1 ∨ v = 2) with rfl | rfl | rfl
  · exact wk9_0_2_0_2_1_0_0
  · exact wk9_0_2_0_2_1_0_1
  · exact wk9_0_2_0_2_1_0_2)
theorem wk9_0_2_0_2_1_1_0 : wk 9 2 8 6 (aw (aw (aw (aw (aw (aw (aw c0 1 0) 2 2) 3 0) 4 2) 5 1) 6 1) 7 0) = true := by decide +kernel
theorem wk9_0_2_0_2_1_1_1 : wk 9 2 8 7 (aw (aw (aw (aw (aw (aw (aw c0 1 0) 2 2) 3 0) 4 2) 5 1) 6 1) 7 1) = true := by decide +kernel
theorem wk9_0_2_0_2_1_1 : wk 9 3 7 6 (aw (aw (aw (aw (aw (aw c0 1 0) 2 2) 3 0) 4 2) 5 1) 6 1) = true := wk_c (fun v hv => by
  rcases (by omega : v = 0 ∨ v = 1) with rfl | rfl
  · exact wk9_0_2_0_2_1_1_0
  · exact wk9_0_2_0_2_1_1_1)
theorem wk9_0_2_0_2_1 : wk 9 4 6 5 (aw (aw (aw (aw (aw c0 1 0) 2 2) 3 0) 4 2) 5 1) = true := wk_c (fun v hv => by
  rcases (by omega : v = 0 ∨ v = 1) with rfl | rfl
  · exact wk9_0_2_0_2_1_0
  · exact wk9_0_2_0_2_1_1)
theorem wk9_0_2_0_2 : wk 9 5 5 4 (aw (aw (aw (aw c0 1 0) 2 2) 3 0) 4 2) = true := wk_c (fun v hv => by
  rcases (by omega : v = 0 ∨ v = 1) with rfl | rfl
  · exact wk9_0_2_0_2_0
  · exact wk9_0_2_0_2_1)
theorem wk9_0_2_0 : wk 9 6 4 2 (aw (aw (aw c0 1 0) 2 2) 3 0) = true := wk_c (fun v hv => by
  rcases (by omega : v = 0 ∨ v = 1 ∨ v = 2) with rfl | rfl | rfl
  · exact wk9_0_2_0_0
  · exact wk9_0_2_0_1
  · exact wk9_0_2_0_2)
theorem wk9_0_2_1_0_0_0_0 : wk 9 2 8 3 (aw (aw (aw (aw (aw (aw (aw c0 1 0) 2 2) 3 1) 4 0) 5 0) 6 0) 7 0) = true := by decide +kernel
theorem wk9_0_2_1_0_0_0_1 : wk 9 2 8 4 (aw (aw (aw (aw (aw (aw (aw c0 1 0) 2 2) 3 1) 4 0) 5 0) 6 0) 7 1) = true := by decide +kernel
theorem wk9_0_2_1_0_0_0_2 : wk 9 2 8 5 (aw (aw (aw (aw (aw (aw (aw c0 1 0) 2 2) 3 1) 4 0) 5 0) 6 0) 7 2) = true := by decide +kernel
theorem wk9_0_2_1_0_0_0_3 : wk 9 2 8 6 (aw (aw (aw (aw (aw (aw (aw c0 1 0) 2 2) 3 1) 4 0) 5 0) 6 0) 7 3) = true := by decide +kernel
theorem wk9_0_2_1_0_0_0_4 : wk 9 2 8 7 (aw (aw (aw (aw (aw (aw (aw c0 1 0) 2 2) 3 1) 4 0) 5 0) 6 0) 7 4) = true := by decide +kernel
theorem wk9_0_2_1_0_0_0 : wk 9 3 7 3 (aw (aw (aw (aw (aw (aw c0 1 0) 2 2) 3 1) 4 0) 5 0) 6 0) = true := wk_c (fun v hv => by
  rcases (by omega : v = 0 ∨ v = 1 ∨ v = 2 ∨ v = 3 ∨ v = 4) with rfl | rfl | rfl | rfl | rfl
  · exact wk9_0_2_1_0_0_0_0
  · exact wk9_0_2_1_0_0_0_1
  · exact wk9_0_2_1_0_0_0_2
  · exact wk9_0_2_1_0_0_0_3
  · exact wk9_0_2_1_0_0_0_4)
theorem wk9_0_2_1_0_0_1_0 : wk 9 2 8 4 (aw (aw (aw (aw (aw (aw (aw c0 1 0) 2 2) 3 1) 4 0) 5 0) 6 1) 7 0) = true := by decide +kernel
theorem wk9_0_2_1_0_0_1_1 : wk 9 2 8 5 (aw (aw (aw (aw (aw (aw (aw c0 1 0) 2 2) 3 1) 4 0) 5 0) 6 1) 7 1) = true := by decide +kernel
theorem wk9_0_2_1_0_0_1_2 : wk 9 2 8 6 (aw (aw (aw (aw (aw (aw (aw c0 1 0) 2 2) 3 1) 4 0) 5 0) 6 1) 7 2) = true := by decide +kernel
theorem wk9_0_2_1_0_0_1_3 : wk 9 2 8 7 (aw (aw (aw (aw (aw (aw (aw c0 1 0) 2 2) 3 1) 4 0) 5 0) 6 1) 7 3) = true := by decide +kernel
theorem wk9_0_2_1_0_0_1 : wk 9 3 7 4 (aw (aw (aw (aw (aw (aw c0 1 0) 2 2) 3 1) 4 0) 5 0) 6 1) = true := wk_c (fun v hv => by
  rcases (by omega : v = 0 ∨ v = 1 ∨ v = 2 ∨ v = 3) with rfl | rfl | rfl | rfl
  · exact wk9_0_2_1_0_0_1_0
  · exact wk9_0_2_1_0_0_1_1
  · exact wk9_0_2_1_0_0_1_2
  · exact wk9_0_2_1_0_0_1_3)
theorem wk9_0_2_1_0_0_2_0 : wk 9 2 8 5 (aw (aw (aw (aw (aw (aw (aw c0 1 0) 2 2) 3 1) 4 0) 5 0) 6 2) 7 0) = true := by decide +kernel
theorem wk9_0_2_1_0_0_2_1 : wk 9 2 8 6 (aw (aw (aw (aw (aw (aw (aw c0 1 0) 2 2) 3 1) 4 0) 5 0) 6 2) 7 1) = true := by decide +kernel
theorem wk9_0_2_1_0_0_2_2 : wk 9 2 8 7 (aw (aw (aw (aw (aw (aw (aw c0 1 0) 2 2) 3 1) 4 0) 5 0) 6 2) 7 2) = true := by decide +kernel
theorem wk9_0_2_1_0_0_2 : wk 9 3 7 5 (aw (aw (aw (aw (aw (aw c0 1 0) 2 2) 3 1) 4 0) 5 0) 6 2) = true := wk_c (fun v hv => by
  rcases (by omega : v = 0 ∨ v = 1 ∨ v = 2) with rfl | rfl | rfl
  · exact wk9_0_2_1_0_0_2_0
  · exact wk9_0_2_1_0_0_2_1
  · exact wk9_0_2_1_0_0_2_2)
theorem wk9_0_2_1_0_0_3_0 : wk 9 2 8 6 (aw (aw (aw (aw (aw (aw (aw c0 1 0) 2 2) 3 1) 4 0) 5 0) 6 3) 7 0) = true := by decide +kernel
theorem wk9_0_2_1_0_0_3_1 : wk 9 2 8 7 (aw (aw (aw (aw (aw (aw (aw c0 1 0) 2 2) 3 1) 4 0) 5 0) 6 3) 7 1) = true := by decide +kernel
theorem wk9_0_2_1_0_0_3 : wk 9 3 7 6 (aw (aw (aw (aw (aw (aw c0 1 0) 2 2) 3 1) 4 0) 5 0) 6 3) = true := wk_c (fun v hv => by
  rcases (by omega : v = 0 ∨ v = 1) with rfl | rfl
  · exact wk9_0_2_1_0_0_3_0
  · exact wk9_0_2_1_0_0_3_1)
theorem wk9_0_2_1_0_0 : wk 9 4 6 3 (aw (aw (aw (aw (aw c0 1 0) 2 2) 3 1) 4 0) 5 0) = true := wk_c (fun v hv => by
  rcases (by omega : v = 0 ∨ v = 1 ∨ v = 2 ∨ v = 3) with rfl | rfl | rfl | rfl
  · exact wk9_0_2_1_0_0_0
  · exact wk9_0_2_1_0_0_1
  · exact wk9_0_2_1_0_0_2
  · exact wk9_0_2_1_0_0_3)
theorem wk9_0_2_1_0_1_0_0 : wk 9 2 8 4 (aw (aw (aw (aw (aw (aw (aw c0 1 0) 2 2) 3 1) 4 0) 5 1) 6 0) 7 0) = true := by decide +kernel
theorem wk9_0_2_1_0_1_0_1 : wk 9 2 8 5 (aw (aw (aw (aw (aw (aw (aw c0 1 0) 2 2) 3 1) 4 0) 5 1) 6 0) 7 1) = true := by decide +kernel
theorem wk9_0_2_1_0_1_0_2 : wk 9 2 8 6 (aw (aw (aw (aw (aw (aw (aw c0 1 0) 2 2) 3 1) 4 0) 5 1) 6 0) 7 2) = true := by decide +kernel
theorem wk9_0_2_1_0_1_0_3 : wk 9 2 8 7 (aw (aw (aw (aw (aw (aw (aw c0 1 0) 2 2) 3 1) 4 0) 5 1) 6 0) 7 3) = true := by decide +kernel
theorem wk9_0_2_1_0_1_0 : wk 9 3 7 4 (aw (aw (aw (aw (aw (aw c0 1 0) 2 2) 3 1) 4 0) 5 1) 6 0) = true := wk_c (fun v hv => by
  rcases (by omega : v = 0 ∨ v = 1 ∨ v = 2 ∨ v = 3) with rfl | rfl | rfl | rfl
  · exact wk9_0_2_1_0_1_0_0
  · exact wk9_0_2_1_0_1_0_1
  · exact wk9_0_2_1_0_1_0_2
  · exact wk9_0_2_1_0_1_0_3)
theorem wk9_0_2_1_0_1_1_0 : wk 9 2 8 5 (aw (aw (aw (aw (aw (aw (aw c0 1 0) 2 2) 3 1) 4 0) 5 1) 6 1) 7 0) = true := by decide +kernel
theorem wk9_0_2_1_0_1_1_1 : wk 9 2 8 6 (aw (aw (aw (aw (aw (aw (aw c0 1 0) 2 2) 3 1) 4 0) 5 1) 6 1) 7 1) = true := by decide +kernel
theorem wk9_0_2_1_0_1_1_2 : wk 9 2 8 7 (aw (aw (aw (aw (aw (aw (aw c0 1 0) 2 2) 3 1) 4 0) 5 1) 6 1) 7 2) = true := by decide +kernel
theorem wk9_0_2_1_0_1_1 : wk 9 3 7 5 (aw (aw (aw (aw (aw (aw c0 1 0) 2 2) 3 1) 4 0) 5 1) 6 1) = true := wk_c (fun v hv => by
  rcases (by omega : v = 0 ∨ v = 1 ∨ v = 2) with rfl | rfl | rfl
  · exact wk9_0_2_1_0_1_1_0
  · exact wk9_0_2_1_0_1_1_1
  · exact wk9_0_2_1_0_1_1_2)
theorem wk9_0_2_1_0_1_2_0 : wk 9 2 8 6 (aw (aw (aw (aw (aw (aw (aw c0 1 0) 2 2) 3 1) 4 0) 5 1) 6 2) 7 0) = true := by decide +kernel
theorem wk9_0_2_1_0_1_2_1 : wk 9 2 8 7 (aw (aw (aw (aw (aw (aw (aw c0 1 0) 2 2) 3 1) 4 0) 5 1) 6 2) 7 1) = true := by decide +kernel
theorem wk9_0_2_1_0_1_2 : wk 9 3 7 6 (aw (aw (aw (aw (aw (aw c0 1 0) 2 2) 3 1) 4 0) 5 1) 6 2) = true := wk_c (fun v hv => by
  rcases (by omega : v = 0 ∨ v = 1) with rfl | rfl
  · exact wk9_0_2_1_0_1_2_0
  · exact wk9_0_2_1_0_1_2_1)
theorem wk9_0_2_1_0_1 : wk 9 4 6 4 (aw (aw (aw (aw (aw c0 1 0) 2 2) 3 1) 4 0) 5 1) = true := wk_c (fun v hv => by
  rcases (by omega : v = 0 ∨ v = 1 ∨ v = 2) with rfl | rfl | rfl
  · exact wk9_0_2_1_0_1_0
  · exact wk9_0_2_1_0_1_1
  · exact wk9_0_2_1_0_1_2)
theorem wk9_0_2_1_0_2_0_0 : wk 9 2 8 5 (aw (aw (aw (aw (aw (aw (aw c0 1 0) 2 2) 3 1) 4 0) 5 2) 6 0) 7 0) = true := by decide +kernel
theorem wk9_0_2_1_0_2_0_1 : wk 9 2 8 6 (aw (aw (aw (aw (aw (aw (aw c0 1 0) 2 2) 3 1) 4 0) 5 2) 6 0) 7 1) = true := by decide +kernel
theorem wk9_0_2_1_0_2_0_2 : wk 9 2 8 7 (aw (aw (aw (aw (aw (aw (aw c0 1 0) 2 2) 3 1) 4 0) 5 2) 6 0) 7 2) = true := by decide +kernel
theorem wk9_0_2_1_0_2_0 : wk 9 3 7 5 (aw (aw (aw (aw (aw (aw c0 1 0) 2 2) 3 1) 4 0) 5 2) 6 0) = true := wk_c (fun v hv => by
  rcases (by omega : v = 0 ∨ v = 1 ∨ v = 2) with rfl | rfl | rfl
  · exact wk9_0_2_1_0_2_0_0
  · exact wk9_0_2_1_0_2_0_1
  · exact wk9_0_2_1_0_2_0_2)
theorem wk9_0_2_1_0_2_1_0 : wk 9 2 8 6 (aw (aw (aw (aw (aw (aw (aw c0 1 0) 2 2) 3 1) 4 0) 5 2) 6 1) 7 0) = true := by decide +kernel
theorem wk9_0_2_1_0_2_1_1 : wk 9 2 8 7 (aw (aw (aw (aw (aw (aw (aw c0 1 0) 2 2) 3 1) 4 0) 5 2) 6 1) 7 1) = true := by decide +kernel
theorem wk9_0_2_1_0_2_1 : wk 9 3 7 6 (aw (aw (aw (aw (aw (aw c0 1 0) 2 2) 3 1) 4 0) 5 2) 6 1) = true := wk_c (fun v hv => by
  rcases (by omega : v = 0 ∨ v = 1) with rfl | rfl
  · exact wk9_0_2_1_0_2_1_0
  · exact wk9_0_2_1_0_2_1_1)
theorem wk9_0_2_1_0_2 : wk 9 4 6 5 (aw (aw (aw (aw (aw c0 1 0) 2 2) 3 1) 4 0) 5 2) = true := wk_c (fun v hv => by
  rcases (by omega : v = 0 ∨ v = 1) with rfl | rfl
  · exact wk9_0_2_1_0_2_0
  · exact wk9_0_2_1_0_2_1)
theorem wk9_0_2_1_0 : wk 9 5 5 3 (aw (aw (aw (aw c0 1 0) 2 2) 3 1) 4 0) = true := wk_c (fun v hv => by
  rcases (by omega : v = 0 ∨ v = 1 ∨ v = 2) with rfl | rfl | rfl
  · exact wk9_0_2_1_0_0
  · exact wk9_0_2_1_0_1
  · exact wk9_0_2_1_0_2)
theorem wk9_0_2_1_1_0_0_0 : wk 9 2 8 4 (aw (aw (aw (aw (aw (aw (aw c0 1 0) 2 2) 3 1) 4 1) 5 0) 6 0) 7 0) = true := by decide +kernel
theorem wk9_0_2_1_1_0_0_1 : wk 9 2 8 5 (aw (aw (aw (aw (aw (aw (aw c0 1 0) 2 2) 3 1) 4 1) 5 0) 6 0) 7 1) = true := by decide +kernel
theorem wk9_0_2_1_1_0_0_2 : wk 9 2 8 6 (aw (aw (aw (aw (aw (aw (aw c0 1 0) 2 2) 3 1) 4 1) 5 0) 6 0) 7 2) = true := by decide +kernel
theorem wk9_0_2_1_1_0_0_3 : wk 9 2 8 7 (aw (aw (aw (aw (aw (aw (aw c0 1 0) 2 2) 3 1) 4 1) 5 0) 6 0) 7 3) = true := by decide +kernel
theorem wk9_0_2_1_1_0_0 : wk 9 3 7 4 (aw (aw (aw (aw (aw (aw c0 1 0) 2 2) 3 1) 4 1) 5 0) 6 0) = true := wk_c (fun v hv => by
  rcases (by omega : v = 0 ∨ v = 1 ∨ v = 2 ∨ v = 3) with rfl | rfl | rfl | rfl
  · exact wk9_0_2_1_1_0_0_0
  · exact wk9_0_2_1_1_0_0_1
  · exact wk9_0_2_1_1_0_0_2
  · exact wk9_0_2_1_1_0_0_3)
theorem wk9_0_2_1_1_0_1_0 : wk 9 2 8 5 (aw (aw (aw (aw (aw (aw (aw c0 1 0) 2 2) 3 1) 4 1) 5 0) 6 1) 7 0) = true := by decide +kernel
theorem wk9_0_2_1_1_0_1_1 : wk 9 2 8 6 (aw (aw (aw (aw (aw (aw (aw c0 1 0) 2 2) 3 1) 4 1) 5 0) 6 1) 7 1) = true := by decide +kernel
theorem wk9_0_2_1_1_0_1_2 : wk 9 2 8 7 (aw (aw (aw (aw (aw (aw (aw c0 1 0) 2 2) 3 1) 4 1) 5 0) 6 1) 7 2) = true := by decide +kernel
theorem wk9_0_2_1_1_0_1 : wk 9 3 7 5 (aw (aw (aw (aw (aw (aw c0 1 0) 2 2) 3 1) 4 1) 5 0) 6 1) = true := wk_c (fun v hv => by
  rcases (by omega : v = 0 ∨ v = 1 ∨ v = 2) with rfl | rfl | rfl
  · exact wk9_0_2_1_1_0_1_0
  · exact wk9_0_2_1_1_0_1_1
  · exact wk9_0_2_1_1_0_1_2)
theorem wk9_0_2_1_1_0_2_0 : wk 9 2 8 6 (aw (aw (aw (aw (aw (aw (aw c0 1 0) 2 2) 3 1) 4 1) 5 0) 6 2) 7 0) = true := by decide +kernel
theorem wk9_0_2_1_1_0_2_1 : wk 9 2 8 7 (aw (aw (aw (aw (aw (aw (aw c0 1 0) 2 2) 3 1) 4 1) 5 0) 6 2) 7 1) = true := by decide +kernel
theorem wk9_0_2_1_1_0_2 : wk 9 3 7 6 (aw (aw (aw (aw (aw (aw c0 1 0) 2 2) 3 1) 4 1) 5 0) 6 2) = true := wk_c (fun v hv => by
  rcases (by omega : v = 0 ∨ v = 1) with rfl | rfl
  · exact wk9_0_2_1_1_0_2_0
  · exact wk9_0_2_1_1_0_2_1)
theorem wk9_0_2_1_1_0 : wk 9 4 6 4 (aw (aw (aw (aw (aw c0 1 0) 2 2) 3 1) 4 1) 5 0) = true := wk_c (fun v hv => by
  rcases (by omega : v = 0 ∨ v = 1 ∨ v = 2) with rfl | rfl | rfl
  · exact wk9_0_2_1_1_0_0
  · exact wk9_0_2_1_1_0_1
  · exact wk9_0_2_1_1_0_2)
theorem wk9_0_2_1_1_1_0_0 : wk 9 2 8 5 (aw (aw (aw (aw (aw (aw (aw c0 1 0) 2 2) 3 1) 4 1) 5 1) 6 0) 7 0) = true := by decide +kernel
theorem wk9_0_2_1_1_1_0_1 : wk 9 2 8 6 (aw (aw (aw (aw (aw (aw (aw c0 1 0) 2 2) 3 1) 4 1) 5 1) 6 0) 7 1) = true := by decide +kernel
theorem wk9_0_2_1_1_1_0_2 : wk 9 2 8 7 (aw (aw (aw (aw (aw (aw (aw c0 1 0) 2 2) 3 1) 4 1) 5 1) 6 0) 7 2) = true := by decide +kernel
theorem wk9_0_2_1_1_1_0 : wk 9 3 7 5 (aw (aw (aw (aw (aw (aw c0 1 0) 2 2) 3 1) 4 1) 5 1) 6 0) = true := wk_c (fun v hv => by
  rcases (by omega : v = 0 ∨ v = 1 ∨ v = 2) with rfl | rfl | rfl
  · exact wk9_0_2_1_1_1_0_0
  · exact wk9_0_2_1_1_1_0_1
  · exact wk9_0_2_1_1_1_0_2)
theorem wk9_0_2_1_1_1_1_0 : wk 9 2 8 6 (aw (aw (aw (aw (aw (aw (aw c0 1 0) 2 2) 3 1) 4 1) 5 1) 6 1) 7 0) = true := by decide +kernel
theorem wk9_0_2_1_1_1_1_1 : wk 9 2 8 7 (aw (aw (aw (aw (aw (aw (aw c0 1 0) 2 2) 3 1) 4 1) 5 1) 6 1) 7 1) = true := by decide +kernel
theorem wk9_0_2_1_1_1_1 : wk 9 3 7 6 (aw (aw (aw (aw (aw (aw c0 1 0) 2 2) 3 1) 4 1) 5 1) 6 1) = true := wk_c (fun v hv => by
  rcases (by omega : v = 0 ∨ v = 1) with rfl | rfl
  · exact wk9_0_2_1_1_1_1_0
  · exact wk9_0_2_1_1_1_1_1)
theorem wk9_0_2_1_1_1 : wk 9 4 6 5 (aw (aw (aw (aw (aw c0 1 0) 2 2) 3 1) 4 1) 5 1) = true := wk_c (fun v hv => by
  rcases (by omega : v = 0 ∨ v = 1) with rfl | rfl
  · exact wk9_0_2_1_1_1_0
  · exact wk9_0_2_1_1_1_1)
theorem wk9_0_2_1_1 : wk 9 5 5 4 (aw (aw (aw (aw c0 1 0) 2 2) 3 1) 4 1) = true := wk_c (fun v hv => by
  rcases (by omega : v = 0 ∨ v = 1) with rfl | rfl
  · exact wk9_0_2_1_1_0
  · exact wk9_0_2_1_1_1)
theorem wk9_0_2_1 : wk 9 6 4 3 (aw (aw (aw c0 1 0) 2 2) 3 1) = true := wk_c (fun v hv => by
  rcases (by omega : v = 0 ∨ v = 1) with rfl | rfl
  · exact wk9_0_2_1_0
  · exact wk9_0_2_1_1)
theorem wk9_0_2 : wk 9 7 3 2 (aw (aw c0 1 0) 2 2) = true := wk_c (fun v hv => by
  rcases (by omega : v = 0 ∨ v = 1) with rfl | rfl
  · exact wk9_0_2_0
  · exact wk9_0_2_1)
theorem wk9_0 : wk 9 8 2 0 (aw c0 1 0) = true := wk_c (fun v hv => by
  rcases (by omega : v = 0 ∨ v = 1 ∨ v = 2) with rfl | rfl | rfl
  · exact wk9_0_0
  · exact wk9_0_1
  · exact wk9_0_2)
theorem wk9_1_0_0_0_0_0_0 : wk 9 2 8 1 (aw (aw (aw (aw (aw (aw (aw c0 1 1) 2 0) 3 0) 4 0) 5 0) 6 0) 7 0) = true := by decide +kernel
theorem wk9_1_0_0_0_0_0_1 : wk 9 2 8 2 (aw (aw (aw (aw (aw (aw (aw c0 1 1) 2 0) 3 0) 4 0) 5 0) 6 0) 7 1) = true := by decide +kernel
theorem wk9_1_0_0_0_0_0_2 : wk 9 2 8 3 (aw (aw (aw (aw (aw (aw (aw c0 1 1) 2 0) 3 0) 4 0) 5 0) 6 0) 7 2) = true := by decide +kernel
theorem wk9_1_0_0_0_0_0_3 : wk 9 2 8 4 (aw (aw (aw (aw (aw (aw (aw c0 1 1) 2 0) 3 0) 4 0) 5 0) 6 0) 7 3) = true := by decide +kernel
theorem wk9_1_0_0_0_0_0_4 : wk 9 2 8 5 (aw (aw (aw (aw (aw (aw (aw c0 1 1) 2 0) 3 0) 4 0) 5 0) 6 0) 7 4) = true := by decide +kernel
theorem wk9_1_0_0_0_0_0_5 : wk 9 2 8 6 (aw (aw (aw (aw (aw (aw (aw c0 1 1) 2 0) 3 0) 4 0) 5 0) 6 0) 7 5) = true := by decide +kernel
theorem wk9_1_0_0_0_0_0_6 : wk 9 2 8 7 (aw (aw (aw (aw (aw (aw (aw c0 1 1) 2 0) 3 0) 4 0) 5 0) 6 0) 7 6) = true := by decide +kernel
theorem wk9_1_0_0_0_0_0 : wk 9 3 7 1 (aw (aw (aw (aw (aw (aw c0 1 1) 2 0) 3 0) 4 0) 5 0) 6 0) = true := wk_c (fun v hv => by
  rcases (by omega : v = 0 ∨ v = 1 ∨ v = 2 ∨ v = 3 ∨ v = 4 ∨ v = 5 ∨ v = 6) with rfl | rfl | rfl | rfl | rfl | rfl | rfl
  · exact wk9_1_0_0_0_0_0_0
  · exact wk9_1_0_0_0_0_0_1
  · exact wk9_1_0_0_0_0_0_2
  · exact wk9_1_0_0_0_0_0_3
  · exact wk9_1_0_0_0_0_0_4
  · exact wk9_1_0_0_0_0_0_5
  · exact wk9_1_0_0_0_0_0_6)
theorem wk9_1_0_0_0_0_1_0 : wk 9 2 8 2 (aw (aw (aw (aw (aw (aw (aw c0 1 1) 2 0) 3 0) 4 0) 5 0) 6 1) 7 0) = true := by decide +kernel
theorem wk9_1_0_0_0_0_1_1 : wk 9 2 8 3 (aw (aw (aw (aw (aw (aw (aw c0 1 1) 2 0) 3 0) 4 0) 5 0) 6 1) 7 1) = true := by decide +kernel
theorem wk9_1_0_0_0_0_1_2 : wk 9 2 8 4 (aw (aw (aw (aw (aw (aw (aw c0 1 1) 2 0) 3 0) 4 0) 5 0) 6 1) 7 2) = true := by decide +kernel
theorem wk9_1_0_0_0_0_1_3 : wk 9 2 8 5 (aw (aw (aw (aw (aw (aw (aw c0 1 1) 2 0) 3 0) 4 0) 5 0) 6 1) 7 3) = true := by decide +kernel
theorem wk9_1_0_0_0_0_1_4 : wk 9 2 8 6 (aw (aw (aw (aw (aw (aw (aw c0 1 1) 2 0) 3 0) 4 0) 5 0) 6 1) 7 4) = true := by decide +kernel
theorem wk9_1_0_0_0_0_1_5 : wk 9 2 8 7 (aw (aw (aw (aw (aw (aw (aw c0 1 1) 2 0) 3 0) 4 0) 5 0) 6 1) 7 5) = true := by decide +kernel
theorem wk9_1_0_0_0_0_1 : wk 9 3 7 2 (aw (aw (aw (aw (aw (aw c0 1 1) 2 0) 3 0) 4 0) 5 0) 6 1) = true := wk_c (fun v hv => by
  rcases (by omega : v = 0 ∨ v = 1 ∨ v = 2 ∨ v = 3 ∨ v = 4 ∨ v = 5) with rfl | rfl | rfl | rfl | rfl | rfl
  · exact wk9_1_0_0_0_0_1_0
  · exact wk9_1_0_0_0_0_1_1
  · exact wk9_1_0_0_0_0_1_2
  · exact wk9_1_0_0_0_0_1_3
  · exact wk9_1_0_0_0_0_1_4
  · exact wk9_1_0_0_0_0_1_5)
theorem wk9_1_0_0_0_0_2_0 : wk 9 2 8 3 (aw (aw (aw (aw (aw (aw (aw c0 1 1) 2 0) 3 0) 4 0) 5 0) 6 2) 7 0) = true := by decide +kernel
theorem wk9_1_0_0_0_0_2_1 : wk 9 2 8 4 (aw (aw (aw (aw (aw (aw (aw c0 1 1) 2 0) 3 0) 4 0) 5 0) 6 2) 7 1) = true := by decide +kernel
theorem wk9_1_0_0_0_0_2_2 : wk 9 2 8 5 (aw (aw (aw (aw (aw (aw (aw c0 1 1) 2 0) 3 0) 4 0) 5 0) 6 2) 7 2) = true := by decide +kernel
theorem wk9_1_0_0_0_0_2_3 : wk 9 2 8 6 (aw (aw (aw (aw (aw (aw (aw c0 1 1) 2 0) 3 0) 4 0) 5 0) 6 2) 7 3) = true := by decide +kernel
theorem wk9_1_0_0_0_0_2_4 : wk 9 2 8 7 (aw (aw (aw (aw (aw (aw (aw c0 1 1) 2 0) 3 0) 4 0) 5 0) 6 2) 7 4) = true := by decide +kernel
theorem wk9_1_0_0_0_0_2 : wk 9 3 7 3 (aw (aw (aw (aw (aw (aw c0 1 1) 2 0) 3 0) 4 0) 5 0) 6 2) = true := wk_c (fun v hv => by
  rcases (by omega : v = 0 ∨ v = 1 ∨ v = 2 ∨ v = 3 ∨ v = 4) with rfl | rfl | rfl | rfl | rfl
  · exact wk9_1_0_0_0_0_2_0
  · exact wk9_1_0_0_0_0_2_1
  · exact wk9_1_0_0_0_0_2_2
  · exact wk9_1_0_0_0_0_2_3
  · exact wk9_1_0_0_0_0_2_4)
theorem wk9_1_0_0_0_0_3_0 : wk 9 2 8 4 (aw (aw (aw (aw (aw (aw (aw c0 1 1) 2 0) 3 0) 4 0) 5 0) 6 3) 7 0) = true := by decide +kernel
theorem wk9_1_0_0_0_0_3_1 : wk 9 2 8 5 (aw (aw (aw (aw (aw (aw (aw c0 1 1) 2 0) 3 0) 4 0) 5 0) 6 3) 7 1) = true := by decide +kernel
theorem wk9_1_0_0_0_0_3_2 : wk 9 2 8 6 (aw (aw (aw (aw (aw (aw (aw c0 1 1) 2 0) 3 0) 4 0) 5 0) 6 3) 7 2) = true := by decide +kernel
theorem wk9_1_0_0_0_0_3_3 : wk 9 2 8 7 (aw (aw (aw (aw (aw (aw (aw c0 1 1) 2 0) 3 0) 4 0) 5 0) 6 3) 7 3) = true := by decide +kernel
theorem wk9_1_0_0_0_0_3 : wk 9 3 7 4 (aw (aw (aw (aw (aw (aw c0 1 1) 2 0) 3 0) 4 0) 5 0) 6 3) = true := wk_c (fun v hv => by
  rcases (by omega : v = 0 ∨ v = 1 ∨ v = 2 ∨ v = 3) with rfl | rfl | rfl | rfl
  · exact wk9_1_0_0_0_0_3_0
  · exact wk9_1_0_0_0_0_3_1
  · exact wk9_1_0_0_0_0_3_2
  · exact wk9_1_0_0_0_0_3_3)
theorem wk9_1_0_0_0_0_4_0 : wk 9 2 8 5 (aw (aw (aw (aw (aw (aw (aw c0 1 1) 2 0) 3 0) 4 0) 5 0) 6 4) 7 0) = true := by decide +kernel
theorem wk9_1_0_0_0_0_4_1 : wk 9 2 8 6 (aw (aw (aw (aw (aw (aw (aw c0 1 1) 2 0) 3 0) 4 0) 5 0) 6 4) 7 1) = true := by decide +kernel
theorem wk9_1_0_0_0_0_4_2 : wk 9 2 8 7 (aw (aw (aw (aw (aw (aw (aw c0 1 1) 2 0) 3 0) 4 0) 5 0) 6 4) 7 2) = true := by decide +kernel
theorem wk9_1_0_0_0_0_4 : wk 9 3 7 5 (aw (aw (aw (aw (aw (aw c0 1 1) 2 0) 3 0) 4 0) 5 0) 6 4) = true := wk_c (fun v hv => by
  rcases (by omega : v = 0 ∨ v = 1 ∨ v = 2) with rfl | rfl | rfl
  · exact wk9_1_0_0_0_0_4_0
  · exact wk9_1_0_0_0_0_4_1
  · exact wk9_1_0_0_0_0_4_2)
theorem wk9_1_0_0_0_0_5_0 : wk 9 2 8 6 (aw (aw (aw (aw (aw (aw (aw c0 1 1) 2 0) 3 0) 4 0) 5 0) 6 5) 7 0) = true := by decide +kernel
theorem wk9_1_0_0_0_0_5_1 : wk 9 2 8 7 (aw (aw (aw (aw (aw (aw (aw c0 1 1) 2 0) 3 0) 4 0) 5 0) 6 5) 7 1) = true := by decide +kernel
theorem wk9_1_0_0_0_0_5 : wk 9 3 7 6 (aw (aw (aw (aw (aw (aw c0 1 1) 2 0) 3 0) 4 0) 5 0) 6 5) = true := wk_c (fun v hv => by
  rcases (by omega : v = 0 ∨ v = 1) with rfl | rfl
  · exact wk9_1_0_0_0_0_5_0
  · exact wk9_1_0_0_0_0_5_1)
theorem wk9_1_0_0_0_0 : wk 9 4 6 1 (aw (aw (aw (aw (aw c0 1 1) 2 0) 3 0) 4 0) 5 0) = true := wk_c (fun v hv => by
  rcases (by omega : v = 0 ∨ v = 1 ∨ v = 2 ∨ v = 3 ∨ v = 4 ∨ v = 5) with rfl | rfl | rfl | rfl | rfl | rfl
  · exact wk9_1_0_0_0_0_0
  · exact wk9_1_0_0_0_0_1
  · exact wk9_1_0_0_0_0_2
  · exact wk9_1_0_0_0_0_3
  · exact wk9_1_0_0_0_0_4
  · exact wk9_1_0_0_0_0_5)
theorem wk9_1_0_0_0_1_0_0 : wk 9 2 8 2 (aw (aw (aw (aw (aw (aw (aw c0 1 1) 2 0) 3 0) 4 0) 5 1) 6 0) 7 0) = true := by decide +kernel
theorem wk9_1_0_0_0_1_0_1 : wk 9 2 8 3 (aw (aw (aw (aw (aw (aw (aw c0 1 1) 2 0) 3 0) 4 0) 5 1) 6 0) 7 1) = true := by decide +kernel
theorem wk9_1_0_0_0_1_0_2 : wk 9 2 8 4 (aw (aw (aw (aw (aw (aw (aw c0 1 1) 2 0) 3 0) 4 0) 5 1) 6 0) 7 2) = true := by decide +kernel
theorem wk9_1_0_0_0_1_0_3 : wk 9 2 8 5 (aw (aw (aw (aw (aw (aw (aw c0 1 1) 2 0) 3 0) 4 0) 5 1) 6 0) 7 3) = true := by decide +kernel
theorem wk9_1_0_0_0_1_0_4 : wk 9 2 8 6 (aw (aw (aw (aw (aw (aw (aw c0 1 1) 2 0) 3 0) 4 0) 5 1) 6 0) 7 4) = true := by decide +kernel
theorem wk9_1_0_0_0_1_0_5 : wk 9 2 8 7 (aw (aw (aw (aw (aw (aw (aw c0 1 1) 2 0) 3 0) 4 0) 5 1) 6 0) 7 5) = true := by decide +kernel
theorem wk9_1_0_0_0_1_0 : wk 9 3 7 2 (aw (aw (aw (aw (aw (aw c0 1 1) 2 0) 3 0) 4 0) 5 1) 6 0) = true := wk_c (fun v hv => by
  rcases (by omega : v = 0 ∨ v = 1 ∨ v = 2 ∨ v = 3 ∨ v = 4 ∨ v = 5) with rfl | rfl | rfl | rfl | rfl | rfl
  · exact wk9_1_0_0_0_1_0_0
  · exact wk9_1_0_0_0_1_0_1
  · exact wk9_1_0_0_0_1_0_2
  · exact wk9_1_0_0_0_1_0_3
  · exact wk9_1_0_0_0_1_0_4
  · exact wk9_1_0_0_0_1_0_5)
theorem wk9_1_0_0_0_1_1_0 : wk 9 2 8 3 (aw (aw (aw (aw (aw (aw (aw c0 1 1) 2 0) 3 0) 4 0) 5 1) 6 1) 7 0) = true := by decide +kernel
theorem wk9_1_0_0_0_1_1_1 : wk 9 2 8 4 (aw (aw (aw (aw (aw (aw (aw c0 1 1) 2 0) 3 0) 4 0) 5 1) 6 1) 7 1) = true := by decide +kernel
theorem wk9_1_0_0_0_1_1_2 : wk 9 2 8 5 (aw (aw (aw (aw (aw (aw (aw c0 1 1) 2 0) 3 0) 4 0) 5 1) 6 1) 7 2) = true := by decide +kernel
theorem wk9_1_0_0_0_1_1_3 : wk 9 2 8 6 (aw (aw (aw (aw (aw (aw (aw c0 1 1) 2 0) 3 0) 4 0) 5 1) 6 1) 7 3) = true := by decide +kernel
theorem wk9_1_0_0_0_1_1_4 : wk 9 2 8 7 (aw (aw (aw (aw (aw (aw (aw c0 1 1) 2 0) 3 0) 4 0) 5 1) 6 1) 7 4) = true := by decide +kernel
theorem wk9_1_0_0_0_1_1 : wk 9 3 7 3 (aw (aw (aw (aw (aw (aw c0 1 1) 2 0) 3 0) 4 0) 5 1) 6 1) = true := wk_c (fun v hv => by
  rcases (by omega : v = 0 ∨ v = 1 ∨ v = 2 ∨ v = 3 ∨ v = 4) with rfl | rfl | rfl | rfl | rfl
  · exact wk9_1_0_0_0_1_1_0
  · exact wk9_1_0_0_0_1_1_1
  · exact wk9_1_0_0_0_1_1_2
  · exact wk9_1_0_0_0_1_1_3
  · exact wk9_1_0_0_0_1_1_4)
theorem wk9_1_0_0_0_1_2_0 : wk 9 2 8 4 (aw (aw (aw (aw (aw (aw (aw c0 1 1) 2 0) 3 0) 4 0) 5 1) 6 2) 7 0) = true := by decide +kernel
theorem wk9_1_0_0_0_1_2_1 : wk 9 2 8 5 (aw (aw (aw (aw (aw (aw (aw c0 1 1) 2 0) 3 0) 4 0) 5 1) 6 2) 7 1) = true := by decide +kernel
theorem wk9_1_0_0_0_1_2_2 : wk 9 2 8 6 (aw (aw (aw (aw (aw (aw (aw c0 1 1) 2 0) 3 0) 4 0) 5 1) 6 2) 7 2) = true := by decide +kernel
theorem wk9_1_0_0_0_1_2_3 : wk 9 2 8 7 (aw (aw (aw (aw (aw (aw (aw c0 1 1) 2 0) 3 0) 4 0) 5 1) 6 2) 7 3) = true := by decide +kernel
theorem wk9_1_0_0_0_1_2 : wk 9 3 7 4 (aw (aw (aw (aw (aw (aw c0 1 1) 2 0) 3 0) 4 0) 5 1) 6 2) = true := wk_c (fun v hv => by
  rcases (by omega : v = 0 ∨ v = 1 ∨ v = 2 ∨ v = 3) with rfl | rfl | rfl | rfl
  · exact wk9_1_0_0_0_1_2_0
  · exact wk9_1_0_0_0_1_2_1
  · exact wk9_1_0_0_0_1_2_2
  · exact wk9_1_0_0_0_1_2_3)
theorem wk9_1_0_0_0_1_3_0 : wk 9 2 8 5 (aw (aw (aw (aw (aw (aw (aw c0 1 1) 2 0) 3 0) 4 0) 5 1) 6 3) 7 0) = true := by decide +kernel
theorem wk9_1_0_0_0_1_3_1 : wk 9 2 8 6 (aw (aw (aw (aw (aw (aw (aw c0 1 1) 2 0) 3 0) 4 0) 5 1) 6 3) 7 1) = true := by decide +kernel
theorem wk9_1_0_0_0_1_3_2 : wk 9 2 8 7 (aw (aw (aw (aw (aw (aw (aw c0 1 1) 2 0) 3 0) 4 0) 5 1) 6 3) 7 2) = true := by decide +kernel
theorem wk9_1_0_0_0_1_3 : wk 9 3 7 5 (aw (aw (aw (aw (aw (aw c0 1 1) 2 0) 3 0) 4 0) 5 1) 6 3) = true := wk_c (fun v hv => by
  rcases (by omega : v = 0 ∨ v = 1 ∨ v = 2) with rfl | rfl | rfl
  · exact wk9_1_0_0_0_1_3_0
  · exact wk9_1_0_0_0_1_3_1
  · exact wk9_1_0_0_0_1_3_2)
theorem wk9_1_0_0_0_1_4_0 : wk 9 2 8 6 (aw (aw (aw (aw (aw (aw (aw c0 1 1) 2 0) 3 0) 4 0) 5 1) 6 4) 7 0) = true := by decide +kernel
theorem wk9_1_0_0_0_1_4_1 : wk 9 2 8 7 (aw (aw (aw (aw (aw (aw (aw c0 1 1) 2 0) 3 0) 4 0) 5 1) 6 4) 7 1) = true := by decide +kernel
theorem wk9_1_0_0_0_1_4 : wk 9 3 7 6 (aw (aw (aw (aw (aw (aw c0 1 1) 2 0) 3 0) 4 0) 5 1) 6 4) = true := wk_c (fun v hv => by
  rcases (by omega : v = 0 ∨ v = 1) with rfl | rfl
  · exact wk9_1_0_0_0_1_4_0
  · exact wk9_1_0_0_0_1_4_1)
theorem wk9_1_0_0_0_1 : wk 9 4 6 2 (aw (aw (aw (aw (aw c0 1 1) 2 0) 3 0) 4 0) 5 1) = true := wk_c (fun v hv => by
  rcases (by omega : v = 0 ∨ v = 1 ∨ v = 2 ∨ v = 3 ∨ v = 4) with rfl | rfl | rfl | rfl | rfl
  · exact wk9_1_0_0_0_1_0
  · exact wk9_1_0_0_0_1_1
  · exact wk9_1_0_0_0_1_2
  · exact wk9_1_0_0_0_1_3
  · exact wk9_1_0_0_0_1_4)
theorem wk9_1_0_0_0_2_0_0 : wk 9 2 8 3 (aw (aw (aw (aw (aw (aw (aw c0 1 1) 2 0) 3 0) 4 0) 5 2) 6 0) 7 0) = true := by decide +kernel
theorem wk9_1_0_0_0_2_0_1 : wk 9 2 8 4 (aw (aw (aw (aw (aw (aw (aw c0 1 1) 2 0) 3 0) 4 0) 5 2) 6 0) 7 1) = true := by decide +kernel
theorem wk9_1_0_0_0_2_0_2 : wk 9 2 8 5 (aw (aw (aw (aw (aw (aw (aw c0 1 1) 2 0) 3 0) 4 0) 5 2) 6 0) 7 2) = true := by decide +kernel
theorem wk9_1_0_0_0_2_0_3 : wk 9 2 8 6 (aw (aw (aw (aw (aw (aw (aw c0 1 1) 2 0) 3 0) 4 0) 5 2) 6 0) 7 3) = true := by decide +kernel
theorem wk9_1_0_0_0_2_0_4 : wk 9 2 8 7 (aw (aw (aw (aw (aw (aw (aw c0 1 1) 2 0) 3 0) 4 0) 5 2) 6 0) 7 4) = true := by decide +kernel
theorem wk9_1_0_0_0_2_0 : wk 9 3 7 3 (aw (aw (aw (aw (aw (aw c0 1 1) 2 0) 3 0) 4 0) 5 2) 6 0) = true := wk_c (fun v hv => by
  rcases (by omega : v = 0 ∨ v = 1 ∨ v = 2 ∨ v = 3 ∨ v = 4) with rfl | rfl | rfl | rfl | rfl
  · exact wk9_1_0_0_0_2_0_0
  · exact wk9_1_0_0_0_2_0_1
  · exact wk9_1_0_0_0_2_0_2
  · exact wk9_1_0_0_0_2_0_3
  · exact wk9_1_0_0_0_2_0_4)
theorem wk9_1_0_0_0_2_1_0 : wk 9 2 8 4 (aw (aw (aw (aw (aw (aw (aw c0 1 1) 2 0) 3 0) 4 0) 5 2) 6 1) 7 0) = true := by decide +kernel
theorem wk9_1_0_0_0_2_1_1 : wk 9 2 8 5 (aw (aw (aw (aw (aw (aw (aw c0 1 1) 2 0) 3 0) 4 0) 5 2) 6 1) 7 1) = true := by decide +kernel
theorem wk9_1_0_0_0_2_1_2 : wk 9 2 8 6 (aw (aw (aw (aw (aw (aw (aw c0 1 1) 2 0) 3 0) 4 0) 5 2) 6 1) 7 2) = true := by decide +kernel
theorem wk9_1_0_0_0_2_1_3 : wk 9 2 8 7 (aw (aw (aw (aw (aw (aw (aw c0 1 1) 2 0) 3 0) 4 0) 5 2) 6 1) 7 3) = true := by decide +kernel
theorem wk9_1_0_0_0_2_1 : wk 9 3 7 4 (aw (aw (aw (aw (aw (aw c0 1 1) 2 0) 3 0) 4 0) 5 2) 6 1) = true := wk_c (fun v hv => by
  rcases (by omega : v = 0 ∨ v = 1 ∨ v = 2 ∨ v = 3) with rfl | rfl | rfl | rfl
  · exact wk9_1_0_0_0_2_1_0
  · exact wk9_1_0_0_0_2_1_1
  · exact wk9_1_0_0_0_2_1_2
  · exact wk9_1_0_0_0_2_1_3)
theorem wk9_1_0_0_0_2_2_0 : wk 9 2 8 5 (aw (aw (aw (aw (aw (aw (aw c0 1 1) 2 0) 3 0) 4 0) 5 2) 6 2) 7 0) = true := by decide +kernel
theorem wk9_1_0_0_0_2_2_1 : wk 9 2 8 6 (aw (aw (aw (aw (aw (aw (aw c0 1 1) 2 0) 3 0) 4 0) 5 2) 6 2) 7 1) = true := by decide +kernel
theorem wk9_1_0_0_0_2_2_2 : wk 9 2 8 7 (aw (aw (aw (aw (aw (aw (aw c0 1 1) 2 0) 3 0) 4 0) 5 2) 6 2) 7 2) = true := by decide +kernel
theorem wk9_1_0_0_0_2_2 : wk 9 3 7 5 (aw (aw (aw (aw (aw (aw c0 1 1) 2 0) 3 0) 4 0) 5 2) 6 2) = true := wk_c (fun v hv => by
  rcases (by omega : v = 0 ∨ v = 1 ∨ v = 2) with rfl | rfl | rfl
  · exact wk9_1_0_0_0_2_2_0
  · exact wk9_1_0_0_0_2_2_1
  · exact wk9_1_0_0_0_2_2_2)
theorem wk9_1_0_0_0_2_3_0 : wk 9 2 8 6 (aw (aw (aw (aw (aw (aw (aw c0 1 1) 2 0) 3 0) 4 0) 5 2) 6 3) 7 0) = true := by decide +kernel
theorem wk9_1_0_0_0_2_3_1 : wk 9 2 8 7 (aw (aw (aw (aw (aw (aw (aw c0 1 1) 2 0) 3 0) 4 0) 5 2) 6 3) 7 1) = true := by decide +kernel
theorem wk9_1_0_0_0_2_3 : wk 9 3 7 6 (aw (aw (aw (aw (aw (aw c0 1 1) 2 0) 3 0) 4 0) 5 2) 6 3) = true := wk_c (fun v hv => by
  rcases (by omega : v = 0 ∨ v = 1) with rfl | rfl
  · exact wk9_1_0_0_0_2_3_0
  · exact wk9_1_0_0_0_2_3_1)
theorem wk9_1_0_0_0_2 : wk 9 4 6 3 (aw (aw (aw (aw (aw c0 1 1) 2 0) 3 0) 4 0) 5 2) = true := wk_c (fun v hv => by
  rcases (by omega : v = 0 ∨ v = 1 ∨ v = 2 ∨ v = 3) with rfl | rfl | rfl | rfl
  · exact wk9_1_0_0_0_2_0
  · exact wk9_1_0_0_0_2_1
  · exact wk9_1_0_0_0_2_2
  · exact wk9_1_0_0_0_2_3)
theorem wk9_1_0_0_0_3_0_0 : wk 9 2 8 4 (aw (aw (aw (aw (aw (aw (aw c0 1 1) 2 0) 3 0) 4 0) 5 3) 6 0) 7 0) = true := by decide +kernel
theorem wk9_1_0_0_0_3_0_1 : wk 9 2 8 5 (aw (aw (aw (aw (aw (aw (aw c0 1 1) 2 0) 3 0) 4 0) 5 3) 6 0) 7 1) = true := by decide +kernel
theorem wk9_1_0_0_0_3_0_2 : wk 9 2 8 6 (aw (aw (aw (aw (aw (aw (aw c0 1 1) 2 0) 3 0) 4 0) 5 3) 6 0) 7 2) = true := by decide +kernel
theorem wk9_1_0_0_0_3_0_3 : wk 9 2 8 7 (aw (aw (aw (aw (aw (aw (aw c0 1 1) 2 0) 3 0) 4 0) 5 3) 6 0) 7 3) = true := by decide +kernel
theorem wk9_1_0_0_0_3_0 : wk 9 3 7 4 (aw (aw (aw (aw (aw (aw c0 1 1) 2 0) 3 0) 4 0) 5 3) 6 0) = true := wk_c (fun v hv => by
  rcases (by omega : v = 0 ∨ v = 1 ∨ v = 2 ∨ v = 3) with rfl | rfl | rfl | rfl
  · exact wk9_1_0_0_0_3_0_0
  · exact wk9_1_0_0_0_3_0_1
  · exact wk9_1_0_0_0_3_0_2
  · exact wk9_1_0_0_0_3_0_3)
theorem wk9_1_0_0_0_3_1_0 : wk 9 2 8 5 (aw (aw (aw (aw (aw (aw (aw c0 1 1) 2 0) 3 0) 4 0) 5 3) 6 1) 7 0) = true := by decide +kernel
theorem wk9_1_0_0_0_3_1_1 : wk 9 2 8 6 (aw (aw (aw (aw (aw (aw (aw c0 1 1) 2 0) 3 0) 4 0) 5 3) 6 1) 7 1) = true := by decide +kernel
theorem wk9_1_0_0_0_3_1_2 : wk 9 2 8 7 (aw (aw (aw (aw (aw (aw (aw c0 1 1) 2 0) 3 0) 4 0) 5 3) 6 1) 7 2) = true := by decide +kernel
theorem wk9_1_0_0_0_3_1 : wk 9 3 7 5 (aw (aw (aw (aw (aw (aw c0 1 1) 2 0) 3 0) 4 0) 5 3) 6 1) = true := wk_c (fun v hv => by
  rcases (by omega : v = 0 ∨ v = 1 ∨ v = 2) with rfl | rfl | rfl
  · exact wk9_1_0_0_0_3_1_0
  · exact wk9_1_0_0_0_3_1_1
  · exact wk9_1_0_0_0_3_1_2)
theorem wk9_1_0_0_0_3_2_0 : wk 9 2 8 6 (aw (aw (aw (aw (aw (aw (aw c0 1 1) 2 0) 3 0) 4 0) 5 3) 6 2) 7 0) = true := by decide +kernel
theorem wk9_1_0_0_0_3_2_1 : wk 9 2 8 7 (aw (aw (aw (aw (aw (aw (aw c0 1 1) 2 0) 3 0) 4 0) 5 3) 6 2) 7 1) = true := by decide +kernel
theorem wk9_1_0_0_0_3_2 : wk 9 3 7 6 (aw (aw (aw (aw (aw (aw c0 1 1) 2 0) 3 0) 4 0) 5 3) 6 2) = true := wk_c (fun v hv => by
  rcases (by omega : v = 0 ∨ v = 1) with rfl | rfl
  · exact wk9_1_0_0_0_3_2_0
  · exact wk9_1_0_0_0_3_2_1)
theorem wk9_1_0_0_0_3 : wk 9 4 6 4 (aw (aw (aw (aw (aw c0 1 1) 2 0) 3 0) 4 0) 5 3) = true := wk_c (fun v hv => by
  rcases (by omega : v = 0 ∨ v = 1 ∨ v = 2) with rfl | rfl | rfl
  · exact wk9_1_0_0_0_3_0
  · exact wk9_1_0_0_0_3_1
  · exact wk9_1_0_0_0_3_2)
theorem wk9_1_0_0_0_4_0_0 : wk 9 2 8 5 (aw (aw (aw (aw (aw (aw (aw c0 1 1) 2 0) 3 0) 4 0) 5 4) 6 0) 7 0) = true := by decide +kernel
theorem wk9_1_0_0_0_4_0_1 : wk 9 2 8 6 (aw (aw (aw (aw (aw (aw (aw c0 1 1) 2 0) 3 0) 4 0) 5 4) 6 0) 7 1) = true := by decide +kernel
theorem wk9_1_0_0_0_4_0_2 : wk 9 2 8 7 (aw (aw (aw (aw (aw (aw (aw c0 1 1) 2 0) 3 0) 4 0) 5 4) 6 0) 7 2) = true := by decide +kernel
theorem wk9_1_0_0_0_4_0 : wk 9 3 7 5 (aw (aw (aw (aw (aw (aw c0 1 1) 2 0) 3 0) 4 0) 5 4) 6 0) = true := wk_c (fun v hv => by
  rcases (by omega : v = 0 ∨ v = 1 ∨ v = 2) with rfl | rfl | rfl
  · exact wk9_1_0_0_0_4_0_0
  · exact wk9_1_0_0_0_4_0_1
  · exact wk9_1_0_0_0_4_0_2)
theorem wk9_1_0_0_0_4_1_0 : wk 9 2 8 6 (aw (aw (aw (aw (aw (aw (aw c0 1 1) 2 0) 3 0) 4 0) 5 4) 6 1) 7 0) = true := by decide +kernel
theorem wk9_1_0_0_0_4_1_1 : wk 9 2 8 7 (aw (aw (aw (aw (aw (aw (aw c0 1 1) 2 0) 3 0) 4 0) 5 4) 6 1) 7 1) = true := by decide +kernel
theorem wk9_1_0_0_0_4_1 : wk 9 3 7 6 (aw (aw (aw (aw (aw (aw c0 1 1) 2 0) 3 0) 4 0) 5 4) 6 1) = true := wk_c (fun v hv => by
  rcases (by omega : v = 0 ∨ v = 1) with rfl | rfl
  · exact wk9_1_0_0_0_4_1_0
  · exact wk9_1_0_0_0_4_1_1)
theorem wk9_1_0_0_0_4 : wk 9 4 6 5 (aw (aw (aw (aw (aw c0 1 1) 2 0) 3 0) 4 0) 5 4) = true := wk_c (fun v hv => by
  rcases (by omega : v = 0 ∨ v = 1) with rfl | rfl
  · exact wk9_1_0_0_0_4_0
  · exact wk9_1_0_0_0_4_1)
theorem wk9_1_0_0_0 : wk 9 5 5 1 (aw (aw (aw (aw c0 1 1) 2 0) 3 0) 4 0) = true := wk_c (fun v hv => by
  rcases (by omega : v = 0 ∨ v = 1 ∨ v = 2 ∨ v = 3 ∨ v = 4) with rfl | rfl | rfl | rfl | rfl
  · exact wk9_1_0_0_0_0
  · exact wk9_1_0_0_0_1
  · exact wk9_1_0_0_0_2
  · exact wk9_1_0_0_0_3
  · exact wk9_1_0_0_0_4)
theorem wk9_1_0_0_1_0_0_0 : wk 9 2 8 2 (aw (aw (aw (aw (aw (aw (aw c0 1 1) 2 0) 3 0) 4 1) 5 0) 6 0) 7 0) = true := by decide +kernel
theorem wk9_1_0_0_1_0_0_1 : wk 9 2 8 3 (aw (aw (aw (aw (aw (aw (aw c0 1 1) 2 0) 3 0) 4 1) 5 0) 6 0) 7 1) = true := by decide +kernel
theorem wk9_1_0_0_1_0_0_2 : wk 9 2 8 4 (aw (aw (aw (aw (aw (aw (aw c0 1 1) 2 0) 3 0) 4 1) 5 0) 6 0) 7 2) = true := by decide +kernel
theorem wk9_1_0_0_1_0_0_3 : wk 9 2 8 5 (aw (aw (aw (aw (aw (aw (aw c0 1 1) 2 0) 3 0) 4 1) 5 0) 6 0) 7 3) = true := by decide +kernel
theorem wk9_1_0_0_1_0_0_4 : wk 9 2 8 6 (aw (aw (aw (aw (aw (aw (aw c0 1 1) 2 0) 3 0) 4 1) 5 0) 6 0) 7 4) = true := by decide +kernel
theorem wk9_1_0_0_1_0_0_5 : wk 9 2 8 7 (aw (aw (aw (aw (aw (aw (aw c0 1 1) 2 0) 3 0) 4 1) 5 0) 6 0) 7 5) = true := by decide +kernel
theorem wk9_1_0_0_1_0_0 : wk 9 3 7 2 (aw (aw (aw (aw (aw (aw c0 1 1) 2 0) 3 0) 4 1) 5 0) 6 0) = true := wk_c (fun v hv => by
  rcases (by omega : v = 0 ∨ v = 1 ∨ v = 2 ∨ v = 3 ∨ v = 4 ∨ v = 5) with rfl | rfl | rfl | rfl | rfl | rfl
  · exact wk9_1_0_0_1_0_0_0
  · exact wk9_1_0_0_1_0_0_1
  · exact wk9_1_0_0_1_0_0_2
  · exact wk9_1_0_0_1_0_0_3
  · exact wk9_1_0_0_1_0_0_4
  · exact wk9_1_0_0_1_0_0_5)
theorem wk9_1_0_0_1_0_1_0 : wk 9 2 8 3 (aw (aw (aw (aw (aw (aw (aw c0 1 1) 2 0) 3 0) 4 1) 5 0) 6 1) 7 0) = true := by decide +kernel
theorem wk9_1_0_0_1_0_1_1 : wk 9 2 8 4 (aw (aw (aw (aw (aw (aw (aw c0 1 1) 2 0) 3 0) 4 1) 5 0) 6 1) 7 1) = true := by decide +kernel
theorem wk9_1_0_0_1_0_1_2 : wk 9 2 8 5 (aw (aw (aw (aw (aw (aw (aw c0 1 1) 2 0) 3 0) 4 1) 5 0) 6 1) 7 2) = true := by decide +kernel
theorem wk9_1_0_0_1_0_1_3 : wk 9 2 8 6 (aw (aw (aw (aw (aw (aw (aw c0 1 1) 2 0) 3 0) 4 1) 5 0) 6 1) 7 3) = true := by decide +kernel
theorem wk9_1_0_0_1_0_1_4 : wk 9 2 8 7 (aw (aw (aw (aw (aw (aw (aw c0 1 1) 2 0) 3 0) 4 1) 5 0) 6 1) 7 4) = true := by decide +kernel
theorem wk9_1_0_0_1_0_1 : wk 9 3 7 3 (aw (aw (aw (aw (aw (aw c0 1 1) 2 0) 3 0) 4 1) 5 0) 6 1) = true := wk_c (fun v hv => by
  rcases (by omega : v = 0 ∨ v = 1 ∨ v = 2 ∨ v = 3 ∨ v = 4) with rfl | rfl | rfl | rfl | rfl
  · exact wk9_1_0_0_1_0_1_0
  · exact wk9_1_0_0_1_0_1_1
  · exact wk9_1_0_0_1_0_1_2
  · exact wk9_1_0_0_1_0_1_3
  · exact wk9_1_0_0_1_0_1_4)
theorem wk9_1_0_0_1_0_2_0 : wk 9 2 8 4 (aw (aw (aw (aw (aw (aw (aw c0 1 1) 2 0) 3 0) 4 1) 5 0) 6 2) 7 0) = true := by decide +kernel
theorem wk9_1_0_0_1_0_2_1 : wk 9 2 8 5 (aw (aw (aw (aw (aw (aw (aw c0 1 1) 2 0) 3 0) 4 1) 5 0) 6 2) 7 1) = true := by decide +kernel
theorem wk9_1_0_0_1_0_2_2 : wk 9 2 8 6 (aw (aw (aw (aw (aw (aw (aw c0 1 1) 2 0) 3 0) 4 1) 5 0) 6 2) 7 2) = true := by decide +kernel
theorem wk9_1_0_0_1_0_2_3 : wk 9 2 8 7 (aw (aw (aw (aw (aw (aw (aw c0 1 1) 2 0) 3 0) 4 1) 5 0) 6 2) 7 3) = true := by decide +kernel
theorem wk9_1_0_0_1_0_2 : wk 9 3 7 4 (aw (aw (aw (aw (aw (aw c0 1 1) 2 0) 3 0) 4 1) 5 0) 6 2) = true := wk_c (fun v hv => by
  rcases (by omega : v = 0 ∨ v = 1 ∨ v = 2 ∨ v = 3) with rfl | rfl | rfl | rfl
  · exact wk9_1_0_0_1_0_2_0
  · exact wk9_1_0_0_1_0_2_1
  · exact wk9_1_0_0_1_0_2_2
  · exact wk9_1_0_0_1_0_2_3)
theorem wk9_1_0_0_1_0_3_0 : wk 9 2 8 5 (aw (aw (aw (aw (aw (aw (aw c0 1 1) 2 0) 3 0) 4 1) 5 0) 6 3) 7 0) = true := by decide +kernel
theorem wk9_1_0_0_1_0_3_1 : wk 9 2 8 6 (aw (aw (aw (aw (aw (aw (aw c0 1 1) 2 0) 3 0) 4 1) 5 0) 6 3) 7 1) = true := by decide +kernel
theorem wk9_1_0_0_1_0_3_2 : wk 9 2 8 7 (aw (aw (aw (aw (aw (aw (aw c0 1 1) 2 0) 3 0) 4 1) 5 0) 6 3) 7 2) = true := by decide +kernel
theorem wk9_1_0_0_1_0_3 : wk 9 3 7 5 (aw (aw (aw (aw (aw (aw c0 1 1) 2 0) 3 0) 4 1) 5 0) 6 3) = true := wk_c (fun v hv => by
  rcases (by omega : v = 0 ∨ v = 1 ∨ v = 2) with rfl | rfl | rfl
  · exact wk9_1_0_0_1_0_3_0
  · exact wk9_1_0_0_1_0_3_1
  · exact wk9_1_0_0_1_0_3_2)
theorem wk9_1_0_0_1_0_4_0 : wk 9 2 8 6 (aw (aw (aw (aw (aw (aw (aw c0 1 1) 2 0) 3 0) 4 1) 5 0) 6 4) 7 0) = true := by decide +kernel
theorem wk9_1_0_0_1_0_4_1 : wk 9 2 8 7 (aw (aw (aw (aw (aw (aw (aw c0 1 1) 2 0) 3 0) 4 1) 5 0) 6 4) 7 1) = true := by decide +kernel
theorem wk9_1_0_0_1_0_4 : wk 9 3 7 6 (aw (aw (aw (aw (aw (aw c0 1 1) 2 0) 3 0) 4 1) 5 0) 6 4) = true := wk_c (fun v hv => by
  rcases (by omega : v = 0 ∨ v = 1) with rfl | rfl
  · exact wk9_1_0_0_1_0_4_0
  · exact wk9_1_0_0_1_0_4_1)
theorem wk9_1_0_0_1_0 : wk 9 4 6 2 (aw (aw (aw (aw (aw c0 1 1) 2 0) 3 0) 4 1) 5 0) = true := wk_c (fun v hv => by
  rcases (by omega : v = 0 ∨ v = 1 ∨ v = 2 ∨ v = 3 ∨ v = 4) with rfl | rfl | rfl | rfl | rfl
  · exact wk9_1_0_0_1_0_0
  · exact wk9_1_0_0_1_0_1
  · exact wk9_1_0_0_1_0_2
  · exact wk9_1_0_0_1_0_3
  · exact wk9_1_0_0_1_0_4)
theorem wk9_1_0_0_1_1_0_0 : wk 9 2 8 3 (aw (aw (aw (aw (aw (aw (aw c0 1 1) 2 0) 3 0) 4 1) 5 1) 6 0) 7 0) = true := by decide +kernel
theorem wk9_1_0_0_1_1_0_1 : wk 9 2 8 4 (aw (aw (aw (aw (aw (aw (aw c0 1 1) 2 0) 3 0) 4 1) 5 1) 6 0) 7 1) = true := by decide +kernel
theorem wk9_1_0_0_1_1_0_2 : wk 9 2 8 5 (aw (aw (aw (aw (aw (aw (aw c0 1 1) 2 0) 3 0) 4 1) 5 1) 6 0) 7 2) = true := by decide +kernel
theorem wk9_1_0_0_1_1_0_3 : wk 9 2 8 6 (aw (aw (aw (aw (aw (aw (aw c0 1 1) 2 0) 3 0) 4 1) 5 1) 6 0) 7 3) = true := by decide +kernel
theorem wk9_1_0_0_1_1_0_4 : wk 9 2 8 7 (aw (aw (aw (aw (aw (aw (aw c0 1 1) 2 0) 3 0) 4 1) 5 1) 6 0) 7 4) = true := by decide +kernel
theorem wk9_1_0_0_1_1_0 : wk 9 3 7 3 (aw (aw (aw (aw (aw (aw c0 1 1) 2 0) 3 0) 4 1) 5 1) 6 0) = true := wk_c (fun v hv => by
  rcases (by omega : v = 0 ∨ v = 1 ∨ v = 2 ∨ v = 3 ∨ v = 4) with rfl | rfl | rfl | rfl | rfl
  · exact wk9_1_0_0_1_1_0_0
  · exact wk9_1_0_0_1_1_0_1
  · exact wk9_1_0_0_1_1_0_2
  · exact wk9_1_0_0_1_1_0_3
  · exact wk9_1_0_0_1_1_0_4)
theorem wk9_1_0_0_1_1_1_0 : wk 9 2 8 4 (aw (aw (aw (aw (aw (aw (aw c0 1 1) 2 0) 3 0) 4 1) 5 1) 6 1) 7 0) = true := by decide +kernel
theorem wk9_1_0_0_1_1_1_1 : wk 9 2 8 5 (aw (aw (aw (aw (aw (aw (aw c0 1 1) 2 0) 3 0) 4 1) 5 1) 6 1) 7 1) = true := by decide +kernel
theorem wk9_1_0_0_1_1_1_2 : wk 9 2 8 6 (aw (aw (aw (aw (aw (aw (aw c0 1 1) 2 0) 3 0) 4 1) 5 1) 6 1) 7 2) = true := by decide +kernel
theorem wk9_1_0_0_1_1_1_3 : wk 9 2 8 7 (aw (aw (aw (aw (aw (aw (aw c0 1 1) 2 0) 3 0) 4 1) 5 1) 6 1) 7 3) = true := by decide +kernel
theorem wk9_1_0_0_1_1_1 : wk 9 3 7 4 (aw (aw (aw (aw (aw (aw c0 1 1) 2 0) 3 0) 4 1) 5 1) 6 1) = true := wk_c (fun v hv => by
  rcases (by omega : v = 0 ∨ v = 1 ∨ v = 2 ∨ v = 3) with rfl | rfl | rfl | rfl
  · exact wk9_1_0_0_1_1_1_0
  · exact wk9_1_0_0_1_1_1_1
  · exact wk9_1_0_0_1_1_1_2
  · exact wk9_1_0_0_1_1_1_3)
theorem wk9_1_0_0_1_1_2_0 : wk 9 2 8 5 (aw (aw (aw (aw (aw (aw (aw c0 1 1) 2 0) 3 0) 4 1) 5 1) 6 2) 7 0) = true := by decide +kernel
theorem wk9_1_0_0_1_1_2_1 : wk 9 2 8 6 (aw (aw (aw (aw (aw (aw (aw c0 1 1) 2 0) 3 0) 4 1) 5 1) 6 2) 7 1) = true := by decide +kernel
theorem wk9_1_0_0_1_1_2_2 : wk 9 2 8 7 (aw (aw (aw (aw (aw (aw (aw c0 1 1) 2 0) 3 0) 4 1) 5 1) 6 2) 7 2) = true := by decide +kernel
theorem wk9_1_0_0_1_1_2 : wk 9 3 7 5 (aw (aw (aw (aw (aw (aw c0 1 1) 2 0) 3 0) 4 1) 5 1) 6 2) = true := wk_c (fun v hv => by
  rcases (by omega : v = 0 ∨ v = 1 ∨ v = 2) with rfl | rfl | rfl
  · exact wk9_1_0_0_1_1_2_0
  · exact wk9_1_0_0_1_1_2_1
  · exact wk9_1_0_0_1_1_2_2)
theorem wk9_1_0_0_1_1_3_0 : wk 9 2 8 6 (aw (aw (aw (aw (aw (aw (aw c0 1 1) 2 0) 3 0) 4 1) 5 1) 6 3) 7 0) = true := by decide +kernel
theorem wk9_1_0_0_1_1_3_1 : wk 9 2 8 7 (aw (aw (aw (aw (aw (aw (aw c0 1 1) 2 0) 3 0) 4 1) 5 1) 6 3) 7 1) = true := by decide +kernel
theorem wk9_1_0_0_1_1_3 : wk 9 3 7 6 (aw (aw (aw (aw (aw (aw c0 1 1) 2 0) 3 0) 4 1) 5 1) 6 3) = true := wk_c (fun v hv => by
  rcases (by omega : v = 0 ∨ v = 1) with rfl | rfl
  · exact wk9_1_0_0_1_1_3_0
  · exact wk9_1_0_0_1_1_3_1)
theorem wk9_1_0_0_1_1 : wk 9 4 6 3 (aw (aw (aw (aw (aw c0 1 1) 2 0) 3 0) 4 1) 5 1) = true := wk_c (fun v hv => by
  rcases (by omega : v = 0 ∨ v = 1 ∨ v = 2 ∨ v = 3) with rfl | rfl | rfl | rfl
  · exact wk9_1_0_0_1_1_0
  · exact wk9_1_0_0_1_1_1
  · exact wk9_1_0_0_1_1_2
  · exact wk9_1_0_0_1_1_3)
theorem wk9_1_0_0_1_2_0_0 : wk 9 2 8 4 (aw (aw (aw (aw (aw (aw (aw c0 1 1) 2 0) 3 0) 4 1) 5 2) 6 0) 7 0) = true := by decide +kernel
theorem wk9_1_0_0_1_2_0_1 : wk 9 2 8 5 (aw (aw (aw (aw (aw (aw (aw c0 1 1) 2 0) 3 0) 4 1) 5 2) 6 0) 7 1) = true := by decide +kernel
theorem wk9_1_0_0_1_2_0_2 : wk 9 2 8 6 (aw (aw (aw (aw (aw (aw (aw c0 1 1) 2 0) 3 0) 4 1) 5 2) 6 0) 7 2) = true := by decide +kernel
theorem wk9_1_0_0_1_2_0_3 : wk 9 2 8 7 (aw (aw (aw (aw (aw (aw (aw c0 1 1) 2 0) 3 0) 4 1) 5 2) 6 0) 7 3) = true := by decide +kernel
theorem wk9_1_0_0_1_2_0 : wk 9 3 7 4 (aw (aw (aw (aw (aw (aw c0 1 1) 2 0) 3 0) 4 1) 5 2) 6 0) = true := wk_c (fun v hv => by
  rcases (by omega : v = 0 ∨ v = 1 ∨ v = 2 ∨ v = 3) with rfl | rfl | rfl | rfl
  · exact wk9_1_0_0_1_2_0_0
  · exact wk9_1_0_0_1_2_0_1
  · exact wk9_1_0_0_1_2_0_2
  · exact wk9_1_0_0_1_2_0_3)
theorem wk9_1_0_0_1_2_1_0 : wk 9 2 8 5 (aw (aw (aw (aw (aw (aw (aw c0 1 1) 2 0) 3 0) 4 1) 5 2) 6 1) 7 0) = true := by decide +kernel
theorem wk9_1_0_0_1_2_1_1 : wk 9 2 8 6 (aw (aw (aw (aw (aw (aw (aw c0 1 1) 2 0) 3 0) 4 1) 5 2) 6 1) 7 1) = true := by decide +kernel
theorem wk9_1_0_0_1_2_1_2 : wk 9 2 8 7 (aw (aw (aw (aw (aw (aw (aw c0 1 1) 2 0) 3 0) 4 1) 5 2) 6 1) 7 2) = true := by decide +kernel
theorem wk9_1_0_0_1_2_1 : wk 9 3 7 5 (aw (aw (aw (aw (aw (aw c0 1 1) 2 0) 3 0) 4 1) 5 2) 6 1) = true := wk_c (fun v hv => by
  rcases (by omega : v = 0 ∨ v = 1 ∨ v = 2) with rfl | rfl | rfl
  · exact wk9_1_0_0_1_2_1_0
  · exact wk9_1_0_0_1_2_1_1
  · exact wk9_1_0_0_1_2_1_2)
theorem wk9_1_0_0_1_2_2_0 : wk 9 2 8 6 (aw (aw (aw (aw (aw (aw (aw c0 1 1) 2 0) 3 0) 4 1) 5 2) 6 2) 7 0) = true := by decide +kernel
theorem wk9_1_0_0_1_2_2_1 : wk 9 2 8 7 (aw (aw (aw (aw (aw (aw (aw c0 1 1) 2 0) 3 0) 4 1) 5 2) 6 2) 7 1) = true := by decide +kernel
theorem wk9_1_0_0_1_2_2 : wk 9 3 7 6 (aw (aw (aw (aw (aw (aw c0 1 1) 2 0) 3 0) 4 1) 5 2) 6 2) = true := wk_c (fun v hv => by
  rcases (by omega : v = 0 ∨ v = 1) with rfl | rfl
  · exact wk9_1_0_0_1_2_2_0
  · exact wk9_1_0_0_1_2_2_1)
theorem wk9_1_0_0_1_2 : wk 9 4 6 4 (aw (aw (aw (aw (aw c0 1 1) 2 0) 3 0) 4 1) 5 2) = true := wk_c (fun v hv => by
  rcases (by omega : v = 0 ∨ v = 1 ∨ v = 2) with rfl | rfl | rfl
  · exact wk9_1_0_0_1_2_0
  · exact wk9_1_0_0_1_2_1
  · exact wk9_1_0_0_1_2_2)
theorem wk9_1_0_0_1_3_0_0 : wk 9 2 8 5 (aw (aw (aw (aw (aw (aw (aw c0 1 1) 2 0) 3 0) 4 1) 5 3) 6 0) 7 0) = true := by decide +kernel
theorem wk9_1_0_0_1_3_0_1 : wk 9 2 8 6 (aw (aw (aw (aw (aw (aw (aw c0 1 1) 2 0) 3 0) 4 1) 5 3) 6 0) 7 1) = true := by decide +kernel
theorem wk9_1_0_0_1_3_0_2 : wk 9 2 8 7 (aw (aw (aw (aw (aw (aw (aw c0 1 1) 2 0) 3 0) 4 1) 5 3) 6 0) 7 2) = true := by decide +kernel
theorem wk9_1_0_0_1_3_0 : wk 9 3 7 5 (aw (aw (aw (aw (aw (aw c0 1 1) 2 0) 3 0) 4 1) 5 3) 6 0) = true := wk_c (fun v hv => by
  rcases (by omega : v = 0 ∨ v = 1 ∨ v = 2) with rfl | rfl | rfl
  · exact wk9_1_0_0_1_3_0_0
  · exact wk9_1_0_0_1_3_0_1
  · exact wk9_1_0_0_1_3_0_2)
theorem wk9_1_0_0_1_3_1_0 : wk 9 2 8 6 (aw (aw (aw (aw (aw (aw (aw c0 1 1) 2 0) 3 0) 4 1) 5 3) 6 1) 7 0) = true := by decide +kernel
theorem wk9_1_0_0_1_3_1_1 : wk 9 2 8 7 (aw (aw (aw (aw (aw (aw (aw c0 1 1) 2 0) 3 0) 4 1) 5 3) 6 1) 7 1) = true := by decide +kernel
theorem wk9_1_0_0_1_3_1 : wk 9 3 7 6 (aw (aw (aw (aw (aw (aw c0 1 1) 2 0) 3 0) 4 1) 5 3) 6 1) = true := wk_c (fun v hv => by
  rcases (by omega : v = 0 ∨ v = 1) with rfl | rfl
  · exact wk9_1_0_0_1_3_1_0
  · exact wk9_1_0_0_1_3_1_1)
theorem wk9_1_0_0_1_3 : wk 9 4 6 5 (aw (aw (aw (aw (aw c0 1 1) 2 0) 3 0) 4 1) 5 3) = true := wk_c (fun v hv => by
  rcases (by omega : v = 0 ∨ v = 1) with rfl | rfl
  · exact wk9_1_0_0_1_3_0
  · exact wk9_1_0_0_1_3_1)
theorem wk9_1_0_0_1 : wk 9 5 5 2 (aw (aw (aw (aw c0 1 1) 2 0) 3 0) 4 1) = true := wk_c (fun v hv => by
  rcases (by omega : v = 0 ∨ v = 1 ∨ v = 2 ∨ v = 3) with rfl | rfl | rfl | rfl
  · exact wk9_1_0_0_1_0
  · exact wk9_1_0_0_1_1
  · exact wk9_1_0_0_1_2
  · exact wk9_1_0_0_1_3)
theorem wk9_1_0_0_2_0_0_0 : wk 9 2 8 3 (aw (aw (aw (aw (aw (aw (aw c0 1 1) 2 0) 3 0) 4 2) 5 0) 6 0) 7 0) = true := by decide +kernel
theorem wk9_1_0_0_2_0_0_1 : wk 9 2 8 4 (aw (aw (aw (aw (aw (aw (aw c0 1 1) 2 0) 3 0) 4 2) 5 0) 6 0) 7 1) = true := by decide +kernel
theorem wk9_1_0_0_2_0_0_2 : wk 9 2 8 5 (aw (aw (aw (aw (aw (aw (aw c0 1 1) 2 0) 3 0) 4 2) 5 0) 6 0) 7 2) = true := by decide +kernel
theorem wk9_1_0_0_2_0_0_3 : wk 9 2 8 6 (aw (aw (aw (aw (aw (aw (aw c0 1 1) 2 0) 3 0) 4 2) 5 0) 6 0) 7 3) = true := by decide +kernel
theorem wk9_1_0_0_2_0_0_4 : wk 9 2 8 7 (aw (aw (aw (aw (aw (aw (aw c0 1 1) 2 0) 3 0) 4 2) 5 0) 6 0) 7 4) = true := by decide +kernel
theorem wk9_1_0_0_2_0_0 : wk 9 3 7 3 (aw (aw (aw (aw (aw (aw c0 1 1) 2 0) 3 0) 4 2) 5 0) 6 0) = true := wk_c (fun v hv => by
  rcases (by omega : v = 0 ∨ v = 1 ∨ v = 2 ∨ v = 3 ∨ v = 4) with rfl | rfl | rfl | rfl | rfl
  · exact wk9_1_0_0_2_0_0_0
  · exact wk9_1_0_0_2_0_0_1
  · exact wk9_1_0_0_2_0_0_2
  · exact wk9_1_0_0_2_0_0_3
  · exact wk9_1_0_0_2_0_0_4)
theorem wk9_1_0_0_2_0_1_0 : wk 9 2 8 4 (aw (aw (aw (aw (aw (aw (aw c0 1 1) 2 0) 3 0) 4 2) 5 0) 6 1) 7 0) = true := by decide +kernel
theorem wk9_1_0_0_2_0_1_1 : wk 9 2 8 5 (aw (aw (aw (aw (aw (aw (aw c0 1 1) 2 0) 3 0) 4 2) 5 0) 6 1) 7 1) = true := by decide +kernel
theorem wk9_1_0_0_2_0_1_2 : wk 9 2 8 6 (aw (aw (aw (aw (aw (aw (aw c0 1 1) 2 0) 3 0) 4 2) 5 0) 6 1) 7 2) = true := by decide +kernel
theorem wk9_1_0_0_2_0_1_3 : wk 9 2 8 7 (aw (aw (aw (aw (aw (aw (aw c0 1 1) 2 0) 3 0) 4 2) 5 0) 6 1) 7 3) = true := by decide +kernel
theorem wk9_1_0_0_2_0_1 : wk 9 3 7 4 (aw (aw (aw (aw (aw (aw c0 1 1) 2 0) 3 0) 4 2) 5 0) 6 1) = true := wk_c (fun v hv => by
  rcases (by omega : v = 0 ∨ v = 1 ∨ v = 2 ∨ v = 3) with rfl | rfl | rfl | rfl
  · exact wk9_1_0_0_2_0_1_0
  · exact wk9_1_0_0_2_0_1_1
  · exact wk9_1_0_0_2_0_1_2
  · exact wk9_1_0_0_2_0_1_3)
theorem wk9_1_0_0_2_0_2_0 : wk 9 2 8 5 (aw (aw (aw (aw (aw (aw (aw c0 1 1) 2 0) 3 0) 4 2) 5 0) 6 2) 7 0) = true := by decide +kernel
theorem wk9_1_0_0_2_0_2_1 : wk 9 2 8 6 (aw (aw (aw (aw (aw (aw (aw c0 1 1) 2 0) 3 0) 4 2) 5 0) 6 2) 7 1) = true := by decide +kernel
theorem wk9_1_0_0_2_0_2_2 : wk 9 2 8 7 (aw (aw (aw (aw (aw (aw (aw c0 1 1) 2 0) 3 0) 4 2) 5 0) 6 2) 7 2) = true := by decide +kernel
theorem wk9_1_0_0_2_0_2 : wk 9 3 7 5 (aw (aw (aw (aw (aw (aw c0 1 1) 2 0) 3 0) 4 2) 5 0) 6 2) = true := wk_c (fun v hv => by
  rcases (by omega : v = 0 ∨ v = 1 ∨ v = 2) with rfl | rfl | rfl
  · exact wk9_1_0_0_2_0_2_0
  · exact wk9_1_0_0_2_0_2_1
  · exact wk9_1_0_0_2_0_2_2)
theorem wk9_1_0_0_2_0_3_0 : wk 9 2 8 6 (aw (aw (aw (aw (aw (aw (aw c0 1 1) 2 0) 3 0) 4 2) 5 0) 6 3) 7 0) = true := by decide +kernel
theorem wk9_1_0_0_2_0_3_1 : wk 9 2 8 7 (aw (aw (aw (aw (aw (aw (aw c0 1 1) 2 0) 3 0) 4 2) 5 0) 6 3) 7 1) = true := by decide +kernel
theorem wk9_1_0_0_2_0_3 : wk 9 3 7 6 (aw (aw (aw (aw (aw (aw c0 1 1) 2 0) 3 0) 4 2) 5 0) 6 3) = true := wk_c (fun v hv => by
  rcases (by omega : v = 0 ∨ v = 1) with rfl | rfl
  · exact wk9_1_0_0_2_0_3_0
  · exact wk9_1_0_0_2_0_3_1)
theorem wk9_1_0_0_2_0 : wk 9 4 6 3 (aw (aw (aw (aw (aw c0 1 1) 2 0) 3 0) 4 2) 5 0) = true := wk_c (fun v hv => by
  rcases (by omega : v = 0 ∨ v = 1 ∨ v = 2 ∨ v = 3) with rfl | rfl | rfl | rfl
  · exact wk9_1_0_0_2_0_0
  · exact wk9_1_0_0_2_0_1
  · exact wk9_1_0_0_2_0_2
  · exact wk9_1_0_0_2_0_3)
theorem wk9_1_0_0_2_1_0_0 : wk 9 2 8 4 (aw (aw (aw (aw (aw (aw (aw c0 1 1) 2 0) 3 0) 4 2) 5 1) 6 0) 7 0) = true := by decide +kernel
theorem wk9_1_0_0_2_1_0_1 : wk 9 2 8 5 (aw (aw (aw (aw (aw (aw (aw c0 1 1) 2 0) 3 0) 4 2) 5 1) 6 0) 7 1) = true := by decide +kernel
theorem wk9_1_0_0_2_1_0_2 : wk 9 2 8 6 (aw (aw (aw (aw (aw (aw (aw c0 1 1) 2 0) 3 0) 4 2) 5 1) 6 0) 7 2) = true := by decide +kernel
theorem wk9_1_0_0_2_1_0_3 : wk 9 2 8 7 (aw (aw (aw (aw (aw (aw (aw c0 1 1) 2 0) 3 0) 4 2) 5 1) 6 0) 7 3) = true := by decide +kernel
theorem wk9_1_0_0_2_1_0 : wk 9 3 7 4 (aw (aw (aw (aw (aw (aw c0 1 1) 2 0) 3 0) 4 2) 5 1) 6 0) = true := wk_c (fun v hv => by
  rcases (by omega : v = 0 ∨ v = 1 ∨ v = 2 ∨ v = 3) with rfl | rfl | rfl | rfl
  · exact wk9_1_0_0_2_1_0_0
  · exact wk9_1_0_0_2_1_0_1
  · exact wk9_1_0_0_2_1_0_2
  · exact wk9_1_0_0_2_1_0_3)
theorem wk9_1_0_0_2_1_1_0 : wk 9 2 8 5 (aw (aw (aw (aw (aw (aw (aw c0 1 1) 2 0) 3 0) 4 2) 5 1) 6 1) 7 0) = true := by decide +kernel
theorem wk9_1_0_0_2_1_1_1 : wk 9 2 8 6 (aw (aw (aw (aw (aw (aw (aw c0 1 1) 2 0) 3 0) 4 2) 5 1) 6 1) 7 1) = true := by decide +kernel
theorem wk9_1_0_0_2_1_1_2 : wk 9 2 8 7 (aw (aw (aw (aw (aw (aw (aw c0 1 1) 2 0) 3 0) 4 2) 5 1) 6 1) 7 2) = true := by decide +kernel
theorem wk9_1_0_0_2_1_1 : wk 9 3 7 5 (aw (aw (aw (aw (aw (aw c0 1 1) 2 0) 3 0) 4 2) 5 1) 6 1) = true := wk_c (fun v hv => by
  rcases (by omega : v = 0 ∨ v = 1 ∨ v = 2) with rfl | rfl | rfl
  · exact wk9_1_0_0_2_1_1_0
  · exact wk9_1_0_0_2_1_1_1
  · exact wk9_1_0_0_2_1_1_2)
theorem wk9_1_0_0_2_1_2_0 : wk 9 2 8 6 (aw (aw (aw (aw (aw (aw (aw c0 1 1) 2 0) 3 0) 4 2) 5 1) 6 2) 7 0) = true := by decide +kernel
theorem wk9_1_0_0_2_1_2_1 : wk 9 2 8 7 (aw (aw (aw (aw (aw (aw (aw c0 1 1) 2 0) 3 0) 4 2) 5 1) 6 2) 7 1) = true := by decide +kernel
theorem wk9_1_0_0_2_1_2 : wk 9 3 7 6 (aw (aw (aw (aw (aw (aw c0 1 1) 2 0) 3 0) 4 2) 5 1) 6 2) = true := wk_c (fun v hv => by
  rcases (by omega : v = 0 ∨ v = 1) with rfl | rfl
  · exact wk9_1_0_0_2_1_2_0
  · exact wk9_1_0_0_2_1_2_1)
theorem wk9_1_0_0_2_1 : wk 9 4 6 4 (aw (aw (aw (aw (aw c0 1 1) 2 0) 3 0) 4 2) 5 1) = true := wk_c (fun v hv => by
  rcases (by omega : v = 0 ∨ v = 1 ∨ v = 2) with rfl | rfl | rfl
  · exact wk9_1_0_0_2_1_0
  · exact wk9_1_0_0_2_1_1
  · exact wk9_1_0_0_2_1_2)
theorem wk9_1_0_0_2_2_0_0 : wk 9 2 8 5 (aw (aw (aw (aw (aw (aw (aw c0 1 1) 2 0) 3 0) 4 2) 5 2) 6 0) 7 0) = true := by decide +kernel
theorem wk9_1_0_0_2_2_0_1 : wk 9 2 8 6 (aw (aw (aw (aw (aw (aw (aw c0 1 1) 2 0) 3 0) 4 2) 5 2) 6 0) 7 1) = true := by decide +kernel
theorem wk9_1_0_0_2_2_0_2 : wk 9 2 8 7 (aw (aw (aw (aw (aw (aw (aw c0 1 1) 2 0) 3 0) 4 2) 5 2) 6 0) 7 2) = true := by decide +kernel
theorem wk9_1_0_0_2_2_0 : wk 9 3 7 5 (aw (aw (aw (aw (aw (aw c0 1 1) 2 0) 3 0) 4 2) 5 2) 6 0) = true := wk_c (fun v hv => by
  rcases (by omega : v = 0 ∨ v = 1 ∨ v = 2) with rfl | rfl | rfl
  · exact wk9_1_0_0_2_2_0_0
  · exact wk9_1_0_0_2_2_0_1
  · exact wk9_1_0_0_2_2_0_2)
theorem wk9_1_0_0_2_2_1_0 : wk 9 2 8 6 (aw (aw (aw (aw (aw (aw (aw c0 1 1) 2 0) 3 0) 4 2) 5 2) 6 1) 7 0) = true := by decide +kernel
theorem wk9_1_0_0_2_2_1_1 : wk 9 2 8 7 (aw (aw (aw (aw (aw (aw (aw c0 1 1) 2 0) 3 0) 4 2) 5 2) 6 1) 7 1) = true := by decide +kernel
theorem wk9_1_0_0_2_2_1 : wk 9 3 7 6 (aw (aw (aw (aw (aw (aw c0 1 1) 2 0) 3 0) 4 2) 5 2) 6 1) = true := wk_c (fun v hv => by
  rcases (by omega : v = 0 ∨ v = 1) with rfl | rfl
  · exact wk9_1_0_0_2_2_1_0
  · exact wk9_1_0_0_2_2_1_1)
theorem wk9_1_0_0_2_2 : wk 9 4 6 5 (aw (aw (aw (aw (aw c0 1 1) 2 0) 3 0) 4 2) 5 2) = true := wk_c (fun v hv => by
  rcases (by omega : v = 0 ∨ v = 1) with rfl | rfl
  · exact wk9_1_0_0_2_2_0
  · exact wk9_1_0_0_2_2_1)
theorem wk9_1_0_0_2 : wk 9 5 5 3 (aw (aw (aw (aw c0 1 1) 2 0) 3 0) 4 2) = true := wk_c (fun v hv => by
  rcases (by omega : v = 0 ∨ v = 1 ∨ v = 2) with rfl | rfl | rfl
  · exact wk9_1_0_0_2_0
  · exact wk9_1_0_0_2_1
  · exact wk9_1_0_0_2_2)
theorem wk9_1_0_0_3_0_0_0 : wk 9 2 8 4 (aw (aw (aw (aw (aw (aw (aw c0 1 1) 2 0) 3 0) 4 3) 5 0) 6 0) 7 0) = true := by decide +kernel
theorem wk9_1_0_0_3_0_0_1 : wk 9 2 8 5 (aw (aw (aw (aw (aw (aw (aw c0 1 1) 2 0) 3 0) 4 3) 5 0) 6 0) 7 1) = true := by decide +kernel
theorem wk9_1_0_0_3_0_0_2 : wk 9 2 8 6 (aw (aw (aw (aw (aw (aw (aw c0 1 1) 2 0) 3 0) 4 3) 5 0) 6 0) 7 2) = true := by decide +kernel
theorem wk9_1_0_0_3_0_0_3 : wk 9 2 8 7 (aw (aw (aw (aw (aw (aw (aw c0 1 1) 2 0) 3 0) 4 3) 5 0) 6 0) 7 3) = true := by decide +kernel
theorem wk9_1_0_0_3_0_0 : wk 9 3 7 4 (aw (aw (aw (aw (aw (aw c0 1 1) 2 0) 3 0) 4 3) 5 0) 6 0) = true := wk_c (fun v hv => by
  rcases (by omega : v = 0 ∨ v = 1 ∨ v = 2 ∨ v = 3) with rfl | rfl | rfl | rfl
  · exact wk9_1_0_0_3_0_0_0
  · exact wk9_1_0_0_3_0_0_1
  · exact wk9_1_0_0_3_0_0_2
  · exact wk9_1_0_0_3_0_0_3)
theorem wk9_1_0_0_3_0_1_0 : wk 9 2 8 5 (aw (aw (aw (aw (aw (aw (aw c0 1 1) 2 0) 3 0) 4 3) 5 0) 6 1) 7 0) = true := by decide +kernel
theorem wk9_1_0_0_3_0_1_1 : wk 9 2 8 6 (aw (aw (aw (aw (aw (aw (aw c0 1 1) 2 0) 3 0) 4 3) 5 0) 6 1) 7 1) = true := by decide +kernel
theorem wk9_1_0_0_3_0_1_2 : wk 9 2 8 7 (aw (aw (aw (aw (aw (aw (aw c0 1 1) 2 0) 3 0) 4 3) 5 0) 6 1) 7 2) = true := by decide +kernel
theorem wk9_1_0_0_3_0_1 : wk 9 3 7 5 (aw (aw (aw (aw (aw (aw c0 1 1) 2 0) 3 0) 4 3) 5 0) 6 1) = true := wk_c (fun v hv => by
  rcases (by omega : v = 0 ∨ v = 1 ∨ v = 2) with rfl | rfl | rfl
  · exact wk9_1_0_0_3_0_1_0
  · exact wk9_1_0_0_3_0_1_1
  · exact wk9_1_0_0_3_0_1_2)
theorem wk9_1_0_0_3_0_2_0 : wk 9 2 8 6 (aw (aw (aw (aw (aw (aw (aw c0 1 1) 2 0) 3 0) 4 3) 5 0) 6 2) 7 0) = true := by decide +kernel
theorem wk9_1_0_0_3_0_2_1 : wk 9 2 8 7 (aw (aw (aw (aw (aw (aw (aw c0 1 1) 2 0) 3 0) 4 3) 5 0) 6 2) 7 1) = true := by decide +kernel
theorem wk9_1_0_0_3_0_2 : wk 9 3 7 6 (aw (aw (aw (aw (aw (aw c0 1 1) 2 0) 3 0) 4 3) 5 0) 6 2) = true := wk_c (fun v hv => by
  rcases (by omega : v = 0 ∨ v = 1) with rfl | rfl
  · exact wk9_1_0_0_3_0_2_0
  · exact wk9_1_0_0_3_0_2_1)
theorem wk9_1_0_0_3_0 : wk 9 4 6 4 (aw (aw (aw (aw (aw c0 1 1) 2 0) 3 0) 4 3) 5 0) = true := wk_c (fun v hv => by
  rcases (by omega : v = 0 ∨ v = 1 ∨ v = 2) with rfl | rfl | rfl
  · exact wk9_1_0_0_3_0_0
  · exact wk9_1_0_0_3_0_1
  · exact wk9_1_0_0_3_0_2)
theorem wk9_1_0_0_3_1_0_0 : wk 9 2 8 5 (aw (aw (aw (aw (aw (aw (aw c0 1 1) 2 0) 3 0) 4 3) 5 1) 6 0) 7 0) = true := by decide +kernel
theorem wk9_1_0_0_3_1_0_1 : wk 9 2 8 6 (aw (aw (aw (aw (aw (aw (aw c0 1 1) 2 0) 3 0) 4 3) 5 1) 6 0) 7 1) = true := by decide +kernel
theorem wk9_1_0_0_3_1_0_2 : wk 9 2 8 7 (aw (aw (aw (aw (aw (aw (aw c0 1 1) 2 0) 3 0) 4 3) 5 1) 6 0) 7 2) = true := by decide +kernel
theorem wk9_1_0_0_3_1_0 : wk 9 3 7 5 (aw (aw (aw (aw (aw (aw c0 1 1) 2 0) 3 0) 4 3) 5 1) 6 0) = true := wk_c (fun v hv => by
  rcases (by omega : v = 0 ∨ v = 1 ∨ v = 2) with rfl | rfl | rfl
  · exact wk9_1_0_0_3_1_0_0
  · exact wk9_1_0_0_3_1_0_1
  · exact wk9_1_0_0_3_1_0_2)
theorem wk9_1_0_0_3_1_1_0 : wk 9 2 8 6 (aw (aw (aw (aw (aw (aw (aw c0 1 1) 2 0) 3 0) 4 3) 5 1) 6 1) 7 0) = true := by decide +kernel
theorem wk9_1_0_0_3_1_1_1 : wk 9 2 8 7 (aw (aw (aw (aw (aw (aw (aw c0 1 1) 2 0) 3 0) 4 3) 5 1) 6 1) 7 1) = true := by decide +kernel
theorem wk9_1_0_0_3_1_1 : wk 9 3 7 6 (aw (aw (aw (aw (aw (aw c0 1 1) 2 0) 3 0) 4 3) 5 1) 6 1) = true := wk_c (fun v hv => by
  rcases (by omega : v = 0 ∨ v = 1) with rfl | rfl
  · exact wk9_1_0_0_3_1_1_0
  · exact wk9_1_0_0_3_1_1_1)
theorem wk9_1_0_0_3_1 : wk 9 4 6 5 (aw (aw (aw (aw (aw c0 1 1) 2 0) 3 0) 4 3) 5 1) = true := wk_c (fun v hv => by
  rcases (by omega : v = 0 ∨ v = 1) with rfl | rfl
  · exact wk9_1_0_0_3_1_0
  · exact wk9_1_0_0_3_1_1)
theorem wk9_1_0_0_3 : wk 9 5 5 4 (aw (aw (aw (aw c0 1 1) 2 0) 3 0) 4 3) = true := wk_c (fun v hv => by
  rcases (by omega : v = 0 ∨ v = 1) with rfl | rfl
  · exact wk9_1_0_0_3_0
  · exact wk9_1_0_0_3_1)
theorem wk9_1_0_0 : wk 9 6 4 1 (aw (aw (aw c0 1 1) 2 0) 3 0) = true := wk_c (fun v hv => by
  rcases (by omega : v = 0 ∨ v = 1 ∨ v = 2 ∨ v = 3) with rfl | rfl | rfl | rfl
  · exact wk9_1_0_0_0
  · exact wk9_1_0_0_1
  · exact wk9_1_0_0_2
  · exact wk9_1_0_0_3)
theorem wk9_1_0_1_0_0_0_0 : wk 9 2 8 2 (aw (aw (aw (aw (aw (aw (aw c0 1 1) 2 0) 3 1) 4 0) 5 0) 6 0) 7 0) = true := by decide +kernel
theorem wk9_1_0_1_0_0_0_1 : wk 9 2 8 3 (aw (aw (aw (aw (aw (aw (aw c0 1 1) 2 0) 3 1) 4 0) 5 0) 6 0) 7 1) = true := by decide +kernel
theorem wk9_1_0_1_0_0_0_2 : wk 9 2 8 4 (aw (aw (aw (aw (aw (aw (aw c0 1 1) 2 0) 3 1) 4 0) 5 0) 6 0) 7 2) = true := by decide +kernel
theorem wk9_1_0_1_0_0_0_3 : wk 9 2 8 5 (aw (aw (aw (aw (aw (aw (aw c0 1 1) 2 0) 3 1) 4 0) 5 0) 6 0) 7 3) = true := by decide +kernel
theorem wk9_1_0_1_0_0_0_4 : wk 9 2 8 6 (aw (aw (aw (aw (aw (aw (aw c0 1 1) 2 0) 3 1) 4 0) 5 0) 6 0) 7 4) = true := by decide +kernel
theorem wk9_1_0_1_0_0_0_5 : wk 9 2 8 7 (aw (aw (aw (aw (aw (aw (aw c0 1 1) 2 0) 3 1) 4 0) 5 0) 6 0) 7 5) = true := by decide +kernel
theorem wk9_1_0_1_0_0_0 : wk 9 3 7 2 (aw (aw (aw (aw (aw (aw c0 1 1) 2 0) 3 1) 4 0) 5 0) 6 0) = true := wk_c (fun v hv => by
  rcases (by omega : v = 0 ∨ v = 1 ∨ v = 2 ∨ v = 3 ∨ v = 4 ∨ v = 5) with rfl | rfl | rfl | rfl | rfl | rfl
  · exact wk9_1_0_1_0_0_0_0
  · exact wk9_1_0_1_0_0_0_1
  · exact wk9_1_0_1_0_0_0_2
  · exact wk9_1_0_1_0_0_0_3
  · exact wk9_1_0_1_0_0_0_4
  · exact wk9_1_0_1_0_0_0_5)
theorem wk9_1_0_1_0_0_1_0 : wk 9 2 8 3 (aw (aw (aw (aw (aw (aw (aw c0 1 1) 2 0) 3 1) 4 0) 5 0) 6 1) 7 0) = true := by decide +kernel
theorem wk9_1_0_1_0_0_1_1 : wk 9 2 8 4 (aw (aw (aw (aw (aw (aw (aw c0 1 1) 2 0) 3 1) 4 0) 5 0) 6 1) 7 1) = true := by decide +kernel
theorem wk9_1_0_1_0_0_1_2 : wk 9 2 8 5 (aw (aw (aw (aw (aw (aw (aw c0 1 1) 2 0) 3 1) 4 0) 5 0) 6 1) 7 2) = true := by decide +kernel
theorem wk9_1_0_1_0_0_1_3 : wk 9 2 8 6 (aw (aw (aw (aw (aw (aw (aw c0 1 1) 2 0) 3 1) 4 0) 5 0) 6 1) 7 3) = true := by decide +kernel
theorem wk9_1_0_1_0_0_1_4 : wk 9 2 8 7 (aw (aw (aw (aw (aw (aw (aw c0 1 1) 2 0) 3 1) 4 0) 5 0) 6 1) 7 4) = true := by decide +kernel
theorem wk9_1_0_1_0_0_1 : wk 9 3 7 3 (aw (aw (aw (aw (aw (aw c0 1 1) 2 0) 3 1) 4 0) 5 0) 6 1) = true := wk_c (fun v hv => by
  rcases (by omega : v = 0 ∨ v = 1 ∨ v = 2 ∨ v = 3 ∨ v = 4) with rfl | rfl | rfl | rfl | rfl
  · exact wk9_1_0_1_0_0_1_0
  · exact wk9_1_0_1_0_0_1_1
  · exact wk9_1_0_1_0_0_1_2
  · exact wk9_1_0_1_0_0_1_3
  · exact wk9_1_0_1_0_0_1_4)
theorem wk9_1_0_1_0_0_2_0 : wk 9 2 8 4 (aw (aw (aw (aw (aw (aw (aw c0 1 1) 2 0) 3 1) 4 0) 5 0) 6 2) 7 0) = true := by decide +kernel
theorem wk9_1_0_1_0_0_2_1 : wk 9 2 8 5 (aw (aw (aw (aw (aw (aw (aw c0 1 1) 2 0) 3 1) 4 0) 5 0) 6 2) 7 1) = true := by decide +kernel
theorem wk9_1_0_1_0_0_2_2 : wk 9 2 8 6 (aw (aw (aw (aw (aw (aw (aw c0 1 1) 2 0) 3 1) 4 0) 5 0) 6 2) 7 2) = true := by decide +kernel
theorem wk9_1_0_1_0_0_2_3 : wk 9 2 8 7 (aw (aw (aw (aw (aw (aw (aw c0 1 1) 2 0) 3 1) 4 0) 5 0) 6 2) 7 3) = true := by decide +kernel
theorem wk9_1_0_1_0_0_2 : wk 9 3 7 4 (aw (aw (aw (aw (aw (aw c0 1 1) 2 0) 3 1) 4 0) 5 0) 6 2) = true := wk_c (fun v hv => by
  rcases (by omega : v = 0 ∨ v = 1 ∨ v = 2 ∨ v = 3) with rfl | rfl | rfl | rfl
  · exact wk9_1_0_1_0_0_2_0
  · exact wk9_1_0_1_0_0_2_1
  · exact wk9_1_0_1_0_0_2_2
  · exact wk9_1_0_1_0_0_2_3)
theorem wk9_1_0_1_0_0_3_0 : wk 9 2 8 5 (aw (aw (aw (aw (aw (aw (aw c0 1 1) 2 0) 3 1) 4 0) 5 0) 6 3) 7 0) = true := by decide +kernel
theorem wk9_1_0_1_0_0_3_1 : wk 9 2 8 6 (aw (aw (aw (aw (aw (aw (aw c0 1 1) 2 0) 3 1) 4 0) 5 0) 6 3) 7 1) = true := by decide +kernel
theorem wk9_1_0_1_0_0_3_2 : wk 9 2 8 7 (aw (aw (aw (aw (aw (aw (aw c0 1 1) 2 0) 3 1) 4 0) 5 0) 6 3) 7 2) = true := by decide +kernel
theorem wk9_1_0_1_0_0_3 : wk 9 3 7 5 (aw (aw (aw (aw (aw (aw c0 1 1) 2 0) 3 1) 4 0) 5 0) 6 3) = true := wk_c (fun v hv => by
  rcases (by omega : v = 0 ∨ v = 1 ∨ v = 2) with rfl | rfl | rfl
  · exact wk9_1_0_1_0_0_3_0
  · exact wk9_1_0_1_0_0_3_1
  · exact wk9_1_0_1_0_0_3_2)
theorem wk9_1_0_1_0_0_4_0 : wk 9 2 8 6 (aw (aw (aw (aw (aw (aw (aw c0 1 1) 2 0) 3 1) 4 0) 5 0) 6 4) 7 0) = true := by decide +kernel
theorem wk9_1_0_1_0_0_4_1 : wk 9 2 8 7 (aw (aw (aw (aw (aw (aw (aw c0 1 1) 2 0) 3 1) 4 0) 5 0) 6 4) 7 1) = true := by decide +kernel
theorem wk9_1_0_1_0_0_4 : wk 9 3 7 6 (aw (aw (aw (aw (aw (aw c0 1 1) 2 0) 3 1) 4 0) 5 0) 6 4) = true := wk_c (fun v hv => by
  rcases (by omega : v = 0 ∨ v = 1) with rfl | rfl
  · exact wk9_1_0_1_0_0_4_0
  · exact wk9_1_0_1_0_0_4_1)
theorem wk9_1_0_1_0_0 : wk 9 4 6 2 (aw (aw (aw (aw (aw c0 1 1) 2 0) 3 1) 4 0) 5 0) = true := wk_c (fun v hv => by
  rcases (by omega : v = 0 ∨ v = 1 ∨ v = 2 ∨ v = 3 ∨ v = 4) with rfl | rfl | rfl | rfl | rfl
  · exact wk9_1_0_1_0_0_0
  · exact wk9_1_0_1_0_0_1
  · exact wk9_1_0_1_0_0_2
  · exact wk9_1_0_1_0_0_3
  · exact wk9_1_0_1_0_0_4)
theorem wk9_1_0_1_0_1_0_0 : wk 9 2 8 3 (aw (aw (aw (aw (aw (aw (aw c0 1 1) 2 0) 3 1) 4 0) 5 1) 6 0) 7 0) = true := by decide +kernel
theorem wk9_1_0_1_0_1_0_1 : wk 9 2 8 4 (aw (aw (aw (aw (aw (aw (aw c0 1 1) 2 0) 3 1) 4 0) 5 1) 6 0) 7 1) = true := by decide +kernel
theorem wk9_1_0_1_0_1_0_2 : wk 9 2 8 5 (aw (aw (aw (aw (aw (aw (aw c0 1 1) 2 0) 3 1) 4 0) 5 1) 6 0) 7 2) = true := by decide +kernel
theorem wk9_1_0_1_0_1_0_3 : wk 9 2 8 6 (aw (aw (aw (aw (aw (aw (aw c0 1 1) 2 0) 3 1) 4 0) 5 1) 6 0) 7 3) = true := by decide +kernel
theorem wk9_1_0_1_0_1_0_4 : wk 9 2 8 7 (aw (aw (aw (aw (aw (aw (aw c0 1 1) 2 0) 3 1) 4 0) 5 1) 6 0) 7 4) = true := by decide +kernel
theorem wk9_1_0_1_0_1_0 : wk 9 3 7 3 (aw (aw (aw (aw (aw (aw c0 1 1) 2 0) 3 1) 4 0) 5 1) 6 0) = true := wk_c (fun v hv => by
  rcases (by omega : v = 0 ∨ v = 1 ∨ v = 2 ∨ v = 3 ∨ v = 4) with rfl | rfl | rfl | rfl | rfl
  · exact wk9_1_0_1_0_1_0_0
  · exact wk9_1_0_1_0_1_0_1
  · exact wk9_1_0_1_0_1_0_2
  · exact wk9_1_0_1_0_1_0_3
  · exact wk9_1_0_1_0_1_0_4)
theorem wk9_1_0_1_0_1_1_0 : wk 9 2 8 4 (aw (aw (aw (aw (aw (aw (aw c0 1 1) 2 0) 3 1) 4 0) 5 1) 6 1) 7 0) = true := by decide +kernel
theorem wk9_1_0_1_0_1_1_1 : wk 9 2 8 5 (aw (aw (aw (aw (aw (aw (aw c0 1 1) 2 0) 3 1) 4 0) 5 1) 6 1) 7 1) = true := by decide +kernel
theorem wk9_1_0_1_0_1_1_2 : wk 9 2 8 6 (aw (aw (aw (aw (aw (aw (aw c0 1 1) 2 0) 3 1) 4 0) 5 1) 6 1) 7 2) = true := by decide +kernel
theorem wk9_1_0_1_0_1_1_3 : wk 9 2 8 7 (aw (aw (aw (aw (aw (aw (aw c0 1 1) 2 0) 3 1) 4 0) 5 1) 6 1) 7 3) = true := by decide +kernel
theorem wk9_1_0_1_0_1_1 : wk 9 3 7 4 (aw (aw (aw (aw (aw (aw c0 1 1) 2 0) 3 1) 4 0) 5 1) 6 1) = true := wk_c (fun v hv => by
  rcases (by omega : v = 0 ∨ v = 1 ∨ v = 2 ∨ v = 3) with rfl | rfl | rfl | rfl
  · exact wk9_1_0_1_0_1_1_0
  · exact wk9_1_0_1_0_1_1_1
  · exact wk9_1_0_1_0_1_1_2
  · exact wk9_1_0_1_0_1_1_3)
theorem wk9_1_0_1_0_1_2_0 : wk 9 2 8 5 (aw (aw (aw (aw (aw (aw (aw c0 1 1) 2 0) 3 1) 4 0) 5 1) 6 2) 7 0) = true := by decide +kernel
theorem wk9_1_0_1_0_1_2_1 : wk 9 2 8 6 (aw (aw (aw (aw (aw (aw (aw c0 1 1) 2 0) 3 1) 4 0) 5 1) 6 2) 7 1) = true := by decide +kernel
theorem wk9_1_0_1_0_1_2_2 : wk 9 2 8 7 (aw (aw (aw (aw (aw (aw (aw c0 1 1) 2 0) 3 1) 4 0) 5 1) 6 2) 7 2) = true := by decide +kernel
theorem wk9_1_0_1_0_1_2 : wk 9 3 7 5 (aw (aw (aw (aw (aw (aw c0 1 1) 2 0) 3 1) 4 0) 5 1) 6 2) = true := wk_c (fun v hv => by
  rcases (by omega : v = 0 ∨ v = 1 ∨ v = 2) with rfl | rfl | rfl
  · exact wk9_1_0_1_0_1_2_0
  · exact wk9_1_0_1_0_1_2_1
  · exact wk9_1_0_1_0_1_2_2)
theorem wk9_1_0_1_0_1_3_0 : wk 9 2 8 6 (aw (aw (aw (aw (aw (aw (aw c0 1 1) 2 0) 3 1) 4 0) 5 1) 6 3) 7 0) = true := by decide +kernel
theorem wk9_1_0_1_0_1_3_1 : wk 9 2 8 7 (aw (aw (aw (aw (aw (aw (aw c0 1 1) 2 0) 3 1) 4 0) 5 1) 6 3) 7 1) = true := by decide +kernel
theorem wk9_1_0_1_0_1_3 : wk 9 3 7 6 (aw (aw (aw (aw (aw (aw c0 1 1) 2 0) 3 1) 4 0) 5 1) 6 3) = true := wk_c (fun v hv => by
  rcases (by omega : v = 0 ∨ v = 1) with rfl | rfl
  · exact wk9_1_0_1_0_1_3_0
  · exact wk9_1_0_1_0_1_3_1)
theorem wk9_1_0_1_0_1 : wk 9 4 6 3 (aw (aw (aw (aw (aw c0 1 1) 2 0) 3 1) 4 0) 5 1) = true := wk_c (fun v hv => by
  rcases (by omega : v = 0 ∨ v = 1 ∨ v = 2 ∨ v = 3) with rfl | rfl | rfl | rfl
  · exact wk9_1_0_1_0_1_0
  · exact wk9_1_0_1_0_1_1
  · exact wk9_1_0_1_0_1_2
  · exact wk9_1_0_1_0_1_3)
theorem wk9_1_0_1_0_2_0_0 : wk 9 2 8 4 (aw (aw (aw (aw (aw (aw (aw c0 1 1) 2 0) 3 1) 4 0) 5 2) 6 0) 7 0) = true := by decide +kernel
theorem wk9_1_0_1_0_2_0_1 : wk 9 2 8 5 (aw (aw (aw (aw (aw (aw (aw c0 1 1) 2 0) 3 1) 4 0) 5 2) 6 0) 7 1) = true := by decide +kernel
theorem wk9_1_0_1_0_2_0_2 : wk 9 2 8 6 (aw (aw (aw (aw (aw (aw (aw c0 1 1) 2 0) 3 1) 4 0) 5 2) 6 0) 7 2) = true := by decide +kernel
theorem wk9_1_0_1_0_2_0_3 : wk 9 2 8 7 (aw (aw (aw (aw (aw (aw (aw c0 1 1) 2 0) 3 1) 4 0) 5 2) 6 0) 7 3) = true := by decide +kernel
theorem wk9_1_0_1_0_2_0 : wk 9 3 7 4 (aw (aw (aw (aw (aw (aw c0 1 1) 2 0) 3 1) 4 0) 5 2) 6 0) = true := wk_c (fun v hv => by
  rcases (by omega : v = 0 ∨ v = 1 ∨ v = 2 ∨ v = 3) with rfl | rfl | rfl | rfl
  · exact wk9_1_0_1_0_2_0_0
  · exact wk9_1_0_1_0_2_0_1
  · exact wk9_1_0_1_0_2_0_2
  · exact wk9_1_0_1_0_2_0_3)
theorem wk9_1_0_1_0_2_1_0 : wk 9 2 8 5 (aw (aw (aw (aw (aw (aw (aw c0 1 1) 2 0) 3 1) 4 0) 5 2) 6 1) 7 0) = true := by decide +kernel
theorem wk9_1_0_1_0_2_1_1 : wk 9 2 8 6 (aw (aw (aw (aw (aw (aw (aw c0 1 1) 2 0) 3 1) 4 0) 5 2) 6 1) 7 1) = true := by decide +kernel
theorem wk9_1_0_1_0_2_1_2 : wk 9 2 8 7 (aw (aw (aw (aw (aw (aw (aw c0 1 1) 2 0) 3 1) 4 0) 5 2) 6 1) 7 2) = true := by decide +kernel
theorem wk9_1_0_1_0_2_1 : wk 9 3 7 5 (aw (aw (aw (aw (aw (aw c0 1 1) 2 0) 3 1) 4 0) 5 2) 6 1) = true := wk_c (fun v hv => by
  rcases (by omega : v = 0 ∨ v = 1 ∨ v = 2) with rfl | rfl | rfl
  · exact wk9_1_0_1_0_2_1_0
  · exact wk9_1_0_1_0_2_1_1
  · exact wk9_1_0_1_0_2_1_2)
theorem wk9_1_0_1_0_2_2_0 : wk 9 2 8 6 (aw (aw (aw (aw (aw (aw (aw c0 1 1) 2 0) 3 1) 4 0) 5 2) 6 2) 7 0) = true := by decide +kernel
theorem wk9_1_0_1_0_2_2_1 : wk 9 2 8 7 (aw (aw (aw (aw (aw (aw (aw c0 1 1) 2 0) 3 1) 4 0) 5 2) 6 2) 7 1) = true := by decide +kernel
theorem wk9_1_0_1_0_2_2 : wk 9 3 7 6 (aw (aw (aw (aw (aw (aw c0 1 1) 2 0) 3 1) 4 0) 5 2) 6 2) = true := wk_c (fun v hv => by
  rcases (by omega : v = 0 ∨ v = 1) with rfl | rfl
  · exact wk9_1_0_1_0_2_2_0
  · exact wk9_1_0_1_0_2_2_1)
theorem wk9_1_0_1_0_2 : wk 9 4 6 4 (aw (aw (aw (aw (aw c0 1 1) 2 0) 3 1) 4 0) 5 2) = true := wk_c (fun v hv => by
  rcases (by omega : v = 0 ∨ v = 1 ∨ v = 2) with rfl | rfl | rfl
  · exact wk9_1_0_1_0_2_0
  · exact wk9_1_0_1_0_2_1
  · exact wk9_1_0_1_0_2_2)
theorem wk9_1_0_1_0_3_0_0 : wk 9 2 8 5 (aw (aw (aw (aw (aw (aw (aw c0 1 1) 2 0) 3 1) 4 0) 5 3) 6 0) 7 0) = true := by decide +kernel
theorem wk9_1_0_1_0_3_0_1 : wk 9 2 8 6 (aw (aw (aw (aw (aw (aw (aw c0 1 1) 2 0) 3 1) 4 0) 5 3) 6 0) 7 1) = true := by decide +kernel
theorem wk9_1_0_1_0_3_0_2 : wk 9 2 8 7 (aw (aw (aw (aw (aw (aw (aw c0 1 1) 2 0) 3 1) 4 0) 5 3) 6 0) 7 2) = true := by decide +kernel
theorem wk9_1_0_1_0_3_0 : wk 9 3 7 5 (aw (aw (aw (aw (aw (aw c0 1 1) 2 0) 3 1) 4 0) 5 3) 6 0) = true := wk_c (fun v hv => by
  rcases (by omega : v = 0 ∨ v = 1 ∨ v = 2) with rfl | rfl | rfl
  · exact wk9_1_0_1_0_3_0_0
  · exact wk9_1_0_1_0_3_0_1
  · exact wk9_1_0_1_0_3_0_2)
theorem wk9_1_0_1_0_3_1_0 : wk 9 2 8 6 (aw (aw (aw (aw (aw (aw (aw c0 1 1) 2 0) 3 1) 4 0) 5 3) 6 1) 7 0) = true := by decide +kernel
theorem wk9_1_0_1_0_3_1_1 : wk 9 2 8 7 (aw (aw (aw (aw (aw (aw (aw c0 1 1) 2 0) 3 1) 4 0) 5 3) 6 1) 7 1) = true := by decide +kernel
theorem wk9_1_0_1_0_3_1 : wk 9 3 7 6 (aw (aw (aw (aw (aw (aw c0 1 1) 2 0) 3 1) 4 0) 5 3) 6 1) = true := wk_c (fun v hv => by
  rcases (by omega : v = 0 ∨ v = 1) with rfl | rfl
  · exact wk9_1_0_1_0_3_1_0
  · exact wk9_1_0_1_0_3_1_1)
theorem wk9_1_0_1_0_3 : wk 9 4 6 5 (aw (aw (aw (aw (aw c0 1 1) 2 0) 3 1) 4 0) 5 3) = true := wk_c (fun v hv => by
  rcases (by omega : v = 0 ∨ v = 1) with rfl | rfl
  · exact wk9_1_0_1_0_3_0
  · exact wk9_1_0_1_0_3_1)
theorem wk9_1_0_1_0 : wk 9 5 5 2 (aw (aw (aw (aw c0 1 1) 2 0) 3 1) 4 0) = true := wk_c (fun v hv => by
  rcases (by omega : v = 0 ∨ v = 1 ∨ v = 2 ∨ v = 3) with rfl | rfl | rfl | rfl
  · exact wk9_1_0_1_0_0
  · exact wk9_1_0_1_0_1
  · exact wk9_1_0_1_0_2
  · exact wk9_1_0_1_0_3)
theorem wk9_1_0_1_1_0_0_0 : wk 9 2 8 3 (aw (aw (aw (aw (aw (aw (aw c0 1 1) 2 0) 3 1) 4 1) 5 0) 6 0) 7 0) = true := by decide +kernel
theorem wk9_1_0_1_1_0_0_1 : wk 9 2 8 4 (aw (aw (aw (aw (aw (aw (aw c0 1 1) 2 0) 3 1) 4 1) 5 0) 6 0) 7 1) = true := by decide +kernel
theorem wk9_1_0_1_1_0_0_2 : wk 9 2 8 5 (aw (aw (aw (aw (aw (aw (aw c0 1 1) 2 0) 3 1) 4 1) 5 0) 6 0) 7 2) = true := by decide +kernel
theorem wk9_1_0_1_1_0_0_3 : wk 9 2 8 6 (aw (aw (aw (aw (aw (aw (aw c0 1 1) 2 0) 3 1) 4 1) 5 0) 6 0) 7 3) = true := by decide +kernel
theorem wk9_1_0_1_1_0_0_4 : wk 9 2 8 7 (aw (aw (aw (aw (aw (aw (aw c0 1 1) 2 0) 3 1) 4 1) 5 0) 6 0) 7 4) = true := by decide +kernel
theorem wk9_1_0_1_1_0_0 : wk 9 3 7 3 (aw (aw (aw (aw (aw (aw c0 1 1) 2 0) 3 1) 4 1) 5 0) 6 0) = true := wk_c (fun v hv => by
  rcases (by omega : v = 0 ∨ v = 1 ∨ v = 2 ∨ v = 3 ∨ v = 4) with rfl | rfl | rfl | rfl | rfl
  · exact wk9_1_0_1_1_0_0_0
  · exact wk9_1_0_1_1_0_0_1
  · exact wk9_1_0_1_1_0_0_2
  · exact wk9_1_0_1_1_0_0_3
  · exact wk9_1_0_1_1_0_0_4)
theorem wk9_1_0_1_1_0_1_0 : wk 9 2 8 4 (aw (aw (aw (aw (aw (aw (aw c0 1 1) 2 0) 3 1) 4 1) 5 0) 6 1) 7 0) = true := by decide +kernel
theorem wk9_1_0_1_1_0_1_1 : wk 9 2 8 5 (aw (aw (aw (aw (aw (aw (aw c0 1 1) 2 0) 3 1) 4 1) 5 0) 6 1) 7 1) = true := by decide +kernel
theorem wk9_1_0_1_1_0_1_2 : wk 9 2 8 6 (aw (aw (aw (aw (aw (aw (aw c0 1 1) 2 0) 3 1) 4 1) 5 0) 6 1) 7 2) = true := by decide +kernel
theorem wk9_1_0_1_1_0_1_3 : wk 9 2 8 7 (aw (aw (aw (aw (aw (aw (aw c0 1 1) 2 0) 3 1) 4 1) 5 0) 6 1) 7 3) = true := by decide +kernel
theorem wk9_1_0_1_1_0_1 : wk 9 3 7 4 (aw (aw (aw (aw (aw (aw c0 1 1) 2 0) 3 1) 4 1) 5 0) 6 1) = true := wk_c (fun v hv => by
  rcases (by omega : v = 0 ∨ v = 1 ∨ v = 2 ∨ v = 3) with rfl | rfl | rfl | rfl
  · exact wk9_1_0_1_1_0_1_0
  · exact wk9_1_0_1_1_0_1_1
  · exact wk9_1_0_1_1_0_1_2
  · exact wk9_1_0_1_1_0_1_3)
theorem wk9_1_0_1_1_0_2_0 : wk 9 2 8 5 (aw (aw (aw (aw (aw (aw (aw c0 1 1) 2 0) 3 1) 4 1) 5 0) 6 2) 7 0) = true := by decide +kernel
theorem wk9_1_0_1_1_0_2_1 : wk 9 2 8 6 (aw (aw (aw (aw (aw (aw (aw c0 1 1) 2 0) 3 1) 4 1) 5 0) 6 2) 7 1) = true := by decide +kernel
theorem wk9_1_0_1_1_0_2_2 : wk 9 2 8 7 (aw (aw (aw (aw (aw (aw (aw c0 1 1) 2 0) 3 1) 4 1) 5 0) 6 2) 7 2) = true := by decide +kernel
theorem wk9_1_0_1_1_0_2 : wk 9 3 7 5 (aw (aw (aw (aw (aw (aw c0 1 1) 2 0) 3 1) 4 1) 5 0) 6 2) = true := wk_c (fun v hv => by
  rcases (by omega : v = 0 ∨ v = 1 ∨ v = 2) with rfl | rfl | rfl
  · exact wk9_1_0_1_1_0_2_0
  · exact wk9_1_0_1_1_0_2_1
  · exact wk9_1_0_1_1_0_2_2)
theorem wk9_1_0_1_1_0_3_0 : wk 9 2 8 6 (aw (aw (aw (aw (aw (aw (aw c0 1 1) 2 0) 3 1) 4 1) 5 0) 6 3) 7 0) = true := by decide +kernel
theorem wk9_1_0_1_1_0_3_1 : wk 9 2 8 7 (aw (aw (aw (aw (aw (aw (aw c0 1 1) 2 0) 3 1) 4 1) 5 0) 6 3) 7 1) = true := by decide +kernel
theorem wk9_1_0_1_1_0_3 : wk 9 3 7 6 (aw (aw (aw (aw (aw (aw c0 1 1) 2 0) 3 1) 4 1) 5 0) 6 3) = true := wk_c (fun v hv => by
  rcases (by omega : v = 0 ∨ v = 1) with rfl | rfl
  · exact wk9_1_0_1_1_0_3_0
  · exact wk9_1_0_1_1_0_3_1)
theorem wk9_1_0_1_1_0 : wk 9 4 6 3 (aw (aw (aw (aw (aw c0 1 1) 2 0) 3 1) 4 1) 5 0) = true := wk_c (fun v hv => by
  rcases (by omega : v = 0 ∨ v = 1 ∨ v = 2 ∨ v = 3) with rfl | rfl | rfl | rfl
  · exact wk9_1_0_1_1_0_0
  · exact wk9_1_0_1_1_0_1
  · exact wk9_1_0_1_1_0_2
  · exact wk9_1_0_1_1_0_3)
theorem wk9_1_0_1_1_1_0_0 : wk 9 2 8 4 (aw (aw (aw (aw (aw (aw (aw c0 1 1) 2 0) 3 1) 4 1) 5 1) 6 0) 7 0) = true := by decide +kernel
theorem wk9_1_0_1_1_1_0_1 : wk 9 2 8 5 (aw (aw (aw (aw (aw (aw (aw c0 1 1) 2 0) 3 1) 4 1) 5 1) 6 0) 7 1) = true := by decide +kernel
theorem wk9_1_0_1_1_1_0_2 : wk 9 2 8 6 (aw (aw (aw (aw (aw (aw (aw c0 1 1) 2 0) 3 1) 4 1) 5 1) 6 0) 7 2) = true := by decide +kernel
theorem wk9_1_0_1_1_1_0_3 : wk 9 2 8 7 (aw (aw (aw (aw (aw (aw (aw c0 1 1) 2 0) 3 1) 4 1) 5 1) 6 0) 7 3) = true := by decide +kernel
theorem wk9_1_0_1_1_1_0 : wk 9 3 7 4 (aw (aw (aw (aw (aw (aw c0 1 1) 2 0) 3 1) 4 1) 5 1) 6 0) = true := wk_c (fun v hv => by
  rcases (by omega : v = 0 ∨ v = 1 ∨ v = 2 ∨ v = 3) with rfl | rfl | rfl | rfl
  · exact wk9_1_0_1_1_1_0_0
  · exact wk9_1_0_1_1_1_0_1
  · exact wk9_1_0_1_1_1_0_2
  · exact wk9_1_0_1_1_1_0_3)
theorem wk9_1_0_1_1_1_1_0 : wk 9 2 8 5 (aw (aw (aw (aw (aw (aw (aw c0 1 1) 2 0) 3 1) 4 1) 5 1) 6 1) 7 0) = true := by decide +kernel
theorem wk9_1_0_1_1_1_1_1 : wk 9 2 8 6 (aw (aw (aw (aw (aw (aw (aw c0 1 1) 2 0) 3 1) 4 1) 5 1) 6 1) 7 1) = true := by decide +kernel
theorem wk9_1_0_1_1_1_1_2 : wk 9 2 8 7 (aw (aw (aw (aw (aw (aw (aw c0 1 1) 2 0) 3 1) 4 1) 5 1) 6 1) 7 2) = true := by decide +kernel
theorem wk9_1_0_1_1_1_1 : wk 9 3 7 5 (aw (aw (aw (aw (aw (aw c0 1 1) 2 0) 3 1) 4 1) 5 1) 6 1) = true := wk_c (fun v hv => by
  rcases (by omega : v = 0 ∨ v = 1 ∨ v = 2) with rfl | rfl | rfl
  · exact wk9_1_0_1_1_1_1_0
  · exact wk9_1_0_1_1_1_1_1
  · exact wk9_1_0_1_1_1_1_2)
theorem wk9_1_0_1_1_1_2_0 : wk 9 2 8 6 (aw (aw (aw (aw (aw (aw (aw c0 1 1) 2 0) 3 1) 4 1) 5 1) 6 2) 7 0) = true := by decide +kernel
theorem wk9_1_0_1_1_1_2_1 : wk 9 2 8 7 (aw (aw (aw (aw (aw (aw (aw c0 1 1) 2 0) 3 1) 4 1) 5 1) 6 2) 7 1) = true := by decide +kernel
theorem wk9_1_0_1_1_1_2 : wk 9 3 7 6 (aw (aw (aw (aw (aw (aw c0 1 1) 2 0) 3 1) 4 1) 5 1) 6 2) = true := wk_c (fun v hv => by
  rcases (by omega : v = 0 ∨ v = 1) with rfl | rfl
  · exact wk9_1_0_1_1_1_2_0
  · exact wk9_1_0_1_1_1_2_1)
theorem wk9_1_0_1_1_1 : wk 9 4 6 4 (aw (aw (aw (aw (aw c0 1 1) 2 0) 3 1) 4 1) 5 1) = true := wk_c (fun v hv => by
  rcases (by omega : v = 0 ∨ v = 1 ∨ v = 2) with rfl | rfl | rfl
  · exact wk9_1_0_1_1_1_0
  · exact wk9_1_0_1_1_1_1
  · exact wk9_1_0_1_1_1_2)
theorem wk9_1_0_1_1_2_0_0 : wk 9 2 8 5 (aw (aw (aw (aw (aw (aw (aw c0 1 1) 2 0) 3 1) 4 1) 5 2) 6 0) 7 0) = true := by decide +kernel
theorem wk9_1_0_1_1_2_0_1 : wk 9 2 8 6 (aw (aw (aw (aw (aw (aw (aw c0 1 1) 2 0) 3 1) 4 1) 5 2) 6 0) 7 1) = true := by decide +kernel
theorem wk9_1_0_1_1_2_0_2 : wk 9 2 8 7 (aw (aw (aw (aw (aw (aw (aw c0 1 1) 2 0) 3 1) 4 1) 5 2) 6 0) 7 2) = true := by decide +kernel
theorem wk9_1_0_1_1_2_0 : wk 9 3 7 5 (aw (aw (aw (aw (aw (aw c0 1 1) 2 0) 3 1) 4 1) 5 2) 6 0) = true := wk_c (fun v hv => by
  rcases (by omega : v = 0 ∨ v = 1 ∨ v = 2) with rfl | rfl | rfl
  · exact wk9_1_0_1_1_2_0_0
  · exact wk9_1_0_1_1_2_0_1
  · exact wk9_1_0_1_1_2_0_2)
theorem wk9_1_0_1_1_2_1_0 : wk 9 2 8 6 (aw (aw (aw (aw (aw (aw (aw c0 1 1) 2 0) 3 1) 4 1) 5 2) 6 1) 7 0) = true := by decide +kernel
theorem wk9_1_0_1_1_2_1_1 : wk 9 2 8 7 (aw (aw (aw (aw (aw (aw (aw c0 1 1) 2 0) 3 1) 4 1) 5 2) 6 1) 7 1) = true := by decide +kernel
theorem wk9_1_0_1_1_2_1 : wk 9 3 7 6 (aw (aw (aw (aw (aw (aw c0 1 1) 2 0) 3 1) 4 1) 5 2) 6 1) = true := wk_c (fun v hv => by
  rcases (by omega : v = 0 ∨ v = 1) with rfl | rfl
  · exact wk9_1_0_1_1_2_1_0
  · exact wk9_1_0_1_1_2_1_1)
theorem wk9_1_0_1_1_2 : wk 9 4 6 5 (aw (aw (aw (aw (aw c0 1 1) 2 0) 3 1) 4 1) 5 2) = true := wk_c (fun v hv => by
  rcases (by omega : v = 0 ∨ v = 1) with rfl | rfl
  · exact wk9_1_0_1_1_2_0
  · exact wk9_1_0_1_1_2_1)
theorem wk9_1_0_1_1 : wk 9 5 5 3 (aw (aw (aw (aw c0 1 1) 2 0) 3 1) 4 1) = true := wk_c (fun v hv => by
  rcases (by omega : v = 0 ∨ v = 1 ∨ v = 2) with rfl | rfl | rfl
  · exact wk9_1_0_1_1_0
  · exact wk9_1_0_1_1_1
  · exact wk9_1_0_1_1_2)
theorem wk9_1_0_1_2_0_0_0 : wk 9 2 8 4 (aw (aw (aw (aw (aw (aw (aw c0 1 1) 2 0) 3 1) 4 2) 5 0) 6 0) 7 0) = true := by decide +kernel
theorem wk9_1_0_1_2_0_0_1 : wk 9 2 8 5 (aw (aw (aw (aw (aw (aw (aw c0 1 1) 2 0) 3 1) 4 2) 5 0) 6 0) 7 1) = true := by decide +kernel
theorem wk9_1_0_1_2_0_0_2 : wk 9 2 8 6 (aw (aw (aw (aw (aw (aw (aw c0 1 1) 2 0) 3 1) 4 2) 5 0) 6 0) 7 2) = true := by decide +kernel
theorem wk9_1_0_1_2_0_0_3 : wk 9 2 8 7 (aw (aw (aw (aw (aw (aw (aw c0 1 1) 2 0) 3 1) 4 2) 5 0) 6 0) 7 3) = true := by decide +kernel
theorem wk9_1_0_1_2_0_0 : wk 9 3 7 4 (aw (aw (aw (aw (aw (aw c0 1 1) 2 0) 3 1) 4 2) 5 0) 6 0) = true := wk_c (fun v hv => by
  rcases (by omega : v = 0 ∨ v = 1 ∨ v = 2 ∨ v = 3) with rfl | rfl | rfl | rfl
  · exact wk9_1_0_1_2_0_0_0
  · exact wk9_1_0_1_2_0_0_1
  · exact wk9_1_0_1_2_0_0_2
  · exact wk9_1_0_1_2_0_0_3)
theorem wk9_1_0_1_2_0_1_0 : wk 9 2 8 5 (aw (aw (aw (aw (aw (aw (aw c0 1 1) 2 0) 3 1) 4 2) 5 0) 6 1) 7 0) = true := by decide +kernel
theorem wk9_1_0_1_2_0_1_1 : wk 9 2 8 6 (aw (aw (aw (aw (aw (aw (aw c0 1 1) 2 0) 3 1) 4 2) 5 0) 6 1) 7 1) = true := by decide +kernel
theorem wk9_1_0_1_2_0_1_2 : wk 9 2 8 7 (aw (aw (aw (aw (aw (aw (aw c0 1 1) 2 0) 3 1) 4 2) 5 0) 6 1) 7 2) = true := by decide +kernel
theorem wk9_1_0_1_2_0_1 : wk 9 3 7 5 (aw (aw (aw (aw (aw (aw c0 1 1) 2 0) 3 1) 4 2) 5 0) 6 1) = true := wk_c (fun v hv => by
  rcases (by omega : v = 0 ∨ v = 1 ∨ v = 2) with rfl | rfl | rfl
  · exact wk9_1_0_1_2_0_1_0
  · exact wk9_1_0_1_2_0_1_1
  · exact wk9_1_0_1_2_0_1_2)
theorem wk9_1_0_1_2_0_2_0 : wk 9 2 8 6 (aw (aw (aw (aw (aw (aw (aw c0 1 1) 2 0) 3 1) 4 2) 5 0) 6 2) 7 0) = true := by decide +kernel
theorem wk9_1_0_1_2_0_2_1 : wk 9 2 8 7 (aw (aw (aw (aw (aw (aw (aw c0 1 1) 2 0) 3 1) 4 2) 5 0) 6 2) 7 1) = true := by decide +kernel
theorem wk9_1_0_1_2_0_2 : wk 9 3 7 6 (aw (aw (aw (aw (aw (aw c0 1 1) 2 0) 3 1) 4 2) 5 0) 6 2) = true := wk_c (fun v hv => by
  rcases (by omega : v = 0 ∨ v = 1) with rfl | rfl
  · exact wk9_1_0_1_2_0_2_0
  · exact wk9_1_0_1_2_0_2_1)
theorem wk9_1_0_1_2_0 : wk 9 4 6 4 (aw (aw (aw (aw (aw c0 1 1) 2 0) 3 1) 4 2) 5 0) = true := wk_c (fun v hv => by
  rcases (by omega : v = 0 ∨ v = 1 ∨ v = 2) with rfl | rfl | rfl
  · exact wk9_1_0_1_2_0_0
  · exact wk9_1_0_1_2_0_1
  · exact wk9_1_0_1_2_0_2)
theorem wk9_1_0_1_2_1_0_0 : wk 9 2 8 5 (aw (aw (aw (aw (aw (aw (aw c0 1 1) 2 0) 3 1) 4 2) 5 1) 6 0) 7 0) = true := by decide +kernel
theorem wk9_1_0_1_2_1_0_1 : wk 9 2 8 6 (aw (aw (aw (aw (aw (aw (aw c0 1 1) 2 0) 3 1) 4 2) 5 1) 6 0) 7 1) = true := by decide +kernel
theorem wk9_1_0_1_2_1_0_2 : wk 9 2 8 7 (aw (aw (aw (aw (aw (aw (aw c0 1 1) 2 0) 3 1) 4 2) 5 1) 6 0) 7 2) = true := by decide +kernel
theorem wk9_1_0_1_2_1_0 : wk 9 3 7 5 (aw (aw (aw (aw (aw (aw c0 1 1) 2 0) 3 1) 4 2) 5 1) 6 0) = true := wk_c (fun v hv => by
  rcases (by omega : v = 0 ∨ v = 1 ∨ v = 2) with rfl | rfl | rfl
  · exact wk9_1_0_1_2_1_0_0
  · exact wk9_1_0_1_2_1_0_1
  · exact wk9_1_0_1_2_1_0_2)
theorem wk9_1_0_1_2_1_1_0 : wk 9 2 8 6 (aw (aw (aw (aw (aw (aw (aw c0 1 1) 2 0) 3 1) 4 2) 5 1) 6 1) 7 0) = true := by decide +kernel
theorem wk9_1_0_1_2_1_1_1 : wk 9 2 8 7 (aw (aw (aw (aw (aw (aw (aw c0 1 1) 2 0) 3 1) 4 2) 5 1) 6 1) 7 1) = true := by decide +kernel
theorem wk9_1_0_1_2_1_1 : wk 9 3 7 6 (aw (aw (aw (aw (aw (aw c0 1 1) 2 0) 3 1) 4 2) 5 1) 6 1) = true := wk_c (fun v hv => by
  rcases (by omega : v = 0 ∨ v = 1) with rfl | rfl
  · exact wk9_1_0_1_2_1_1_0
  · exact wk9_1_0_1_2_1_1_1)
theorem wk9_1_0_1_2_1 : wk 9 4 6 5 (aw (aw (aw (aw (aw c0 1 1) 2 0) 3 1) 4 2) 5 1) = true := wk_c (fun v hv => by
  rcases (by omega : v = 0 ∨ v = 1) with rfl | rfl
  · exact wk9_1_0_1_2_1_0
  · exact wk9_1_0_1_2_1_1)
theorem wk9_1_0_1_2 : wk 9 5 5 4 (aw (aw (aw (aw c0 1 1) 2 0) 3 1) 4 2) = true := wk_c (fun v hv => by
  rcases (by omega : v = 0 ∨ v = 1) with rfl | rfl
  · exact wk9_1_0_1_2_0
  · exact wk9_1_0_1_2_1)
theorem wk9_1_0_1 : wk 9 6 4 2 (aw (aw (aw c0 1 1) 2 0) 3 1) = true := wk_c (fun v hv => by
  rcases (by omega : v = 0 ∨ v = 1 ∨ v = 2) with rfl | rfl | rfl
  · exact wk9_1_0_1_0
  · exact wk9_1_0_1_1
  · exact wk9_1_0_1_2)
theorem wk9_1_0_2_0_0_0_0 : wk 9 2 8 3 (aw (aw (aw (aw (aw (aw (aw c0 1 1) 2 0) 3 2) 4 0) 5 0) 6 0) 7 0) = true := by decide +kernel
theorem wk9_1_0_2_0_0_0_1 : wk 9 2 8 4 (aw (aw (aw (aw (aw (aw (aw c0 1 1) 2 0) 3 2) 4 0) 5 0) 6 0) 7 1) = true := by decide +kernel
theorem wk9_1_0_2_0_0_0_2 : wk 9 2 8 5 (aw (aw (aw (aw (aw (aw (aw c0 1 1) 2 0) 3 2) 4 0) 5 0) 6 0) 7 2) = true := by decide +kernel
theorem wk9_1_0_2_0_0_0_3 : wk 9 2 8 6 (aw (aw (aw (aw (aw (aw (aw c0 1 1) 2 0) 3 2) 4 0) 5 0) 6 0) 7 3) = true := by decide +kernel
theorem wk9_1_0_2_0_0_0_4 : wk 9 2 8 7 (aw (aw (aw (aw (aw (aw (aw c0 1 1) 2 0) 3 2) 4 0) 5 0) 6 0) 7 4) = true := by decide +kernel
theorem wk9_1_0_2_0_0_0 : wk 9 3 7 3 (aw (aw (aw (aw (aw (aw c0 1 1) 2 0) 3 2) 4 0) 5 0) 6 0) = true := wk_c (fun v hv => by
  rcases (by omega : v = 0 ∨ v = 1 ∨ v = 2 ∨ v = 3 ∨ v = 4) with rfl | rfl | rfl | rfl | rfl
  · exact wk9_1_0_2_0_0_0_0
  · exact wk9_1_0_2_0_0_0_1
  · exact wk9_1_0_2_0_0_0_2
  · exact wk9_1_0_2_0_0_0_3
  · exact wk9_1_0_2_0_0_0_4)
theorem wk9_1_0_2_0_0_1_0 : wk 9 2 8 4 (aw (aw (aw (aw (aw (aw (aw c0 1 1) 2 0) 3 2) 4 0) 5 0) 6 1) 7 0) = true := by decide +kernel
theorem wk9_1_0_2_0_0_1_1 : wk 9 2 8 5 (aw (aw (aw (aw (aw (aw (aw c0 1 1) 2 0) 3 2) 4 0) 5 0) 6 1) 7 1) = true := by decide +kernel
theorem wk9_1_0_2_0_0_1_2 : wk 9 2 8 6 (aw (aw (aw (aw (aw (aw (aw c0 1 1) 2 0) 3 2) 4 0) 5 0) 6 1) 7 2) = true := by decide +kernel
theorem wk9_1_0_2_0_0_1_3 : wk 9 2 8 7 (aw (aw (aw (aw (aw (aw (aw c0 1 1) 2 0) 3 2) 4 0) 5 0) 6 1) 7 3) = true := by decide +kernel
theorem wk9_1_0_2_0_0_1 : wk 9 3 7 4 (aw (aw (aw (aw (aw (aw c0 1 1) 2 0) 3 2) 4 0) 5 0) 6 1) = true := wk_c (fun v hv => by
  rcases (by omega : v = 0 ∨ v = 1 ∨ v = 2 ∨ v = 3) with rfl | rfl | rfl | rfl
  · exact wk9_1_0_2_0_0_1_0
  · exact wk9_1_0_2_0_0_1_1
  · exact wk9_1_0_2_0_0_1_2
  · exact wk9_1_0_2_0_0_1_3)
theorem wk9_1_0_2_0_0_2_0 : wk 9 2 8 5 (aw (aw (aw (aw (aw (aw (aw c0 1 1) 2 0) 3 2) 4 0) 5 0) 6 2) 7 0) = true := by decide +kernel
theorem wk9_1_0_2_0_0_2_1 : wk 9 2 8 6 (aw (aw (aw (aw (aw (aw (aw c0 1 1) 2 0) 3 2) 4 0) 5 0) 6 2) 7 1) = true := by decide +kernel
theorem wk9_1_0_2_0_0_2_2 : wk 9 2 8 7 (aw (aw (aw (aw (aw (aw (aw c0 1 1) 2 0) 3 2) 4 0) 5 0) 6 2) 7 2) = true := by decide +kernel
theorem wk9_1_0_2_0_0_2 : wk 9 3 7 5 (aw (aw (aw (aw (aw (aw c0 1 1) 2 0) 3 2) 4 0) 5 0) 6 2) = true := wk_c (fun v hv => by
  rcases (by omega : v = 0 ∨ v = 1 ∨ v = 2) with rfl | rfl | rfl
  · exact wk9_1_0_2_0_0_2_0
  · exact wk9_1_0_2_0_0_2_1
  · exact wk9_1_0_2_0_0_2_2)
theorem wk9_1_0_2_0_0_3_0 : wk 9 2 8 6 (aw (aw (aw (aw (aw (aw (aw c0 1 1) 2 0) 3 2) 4 0) 5 0) 6 3) 7 0) = true := by decide +kernel
theorem wk9_1_0_2_0_0_3_1 : wk 9 2 8 7 (aw (aw (aw (aw (aw (aw (aw c0 1 1) 2 0) 3 2) 4 0) 5 0) 6 3) 7 1) = true := by decide +kernel
theorem wk9_1_0_2_0_0_3 : wk 9 3 7 6 (aw (aw (aw (aw (aw (aw c0 1 1) 2 0) 3 2) 4 0) 5 0) 6 3) = true := wk_c (fun v hv => by
  rcases (by omega : v = 0 ∨ v = 1) with rfl | rfl
  · exact wk9_1_0_2_0_0_3_0
  · exact wk9_1_0_2_0_0_3_1)
theorem wk9_1_0_2_0_0 : wk 9 4 6 3 (aw (aw (aw (aw (aw c0 1 1) 2 0) 3 2) 4 0) 5 0) = true := wk_c (fun v hv => by
  rcases (by omega : v = 0 ∨ v = 1 ∨ v = 2 ∨ v = 3) with rfl | rfl | rfl | rfl
  · exact wk9_1_0_2_0_0_0
  · exact wk9_1_0_2_0_0_1
  · exact wk9_1_0_2_0_0_2
  · exact wk9_1_0_2_0_0_3)
theorem wk9_1_0_2_0_1_0_0 : wk 9 2 8 4 (aw (aw (aw (aw (aw (aw (aw c0 1 1) 2 0) 3 2) 4 0) 5 1) 6 0) 7 0) = true := by decide +kernel
theorem wk9_1_0_2_0_1_0_1 : wk 9 2 8 5 (aw (aw (aw (aw (aw (aw (aw c0 1 1) 2 0) 3 2) 4 0) 5 1) 6 0) 7 1) = true := by decide +kernel
theorem wk9_1_0_2_0_1_0_2 : wk 9 2 8 6 (aw (aw (aw (aw (aw (aw (aw c0 1 1) 2 0) 3 2) 4 0) 5 1) 6 0) 7 2) = true := by decide +kernel
theorem wk9_1_0_2_0_1_0_3 : wk 9 2 8 7 (aw (aw (aw (aw (aw (aw (aw c0 1 1) 2 0) 3 2) 4 0) 5 1) 6 0) 7 3) = true := by decide +kernel
theorem wk9_1_0_2_0_1_0 : wk 9 3 7 4 (aw (aw (aw (aw (aw (aw c0 1 1) 2 0) 3 2) 4 0) 5 1) 6 0) = true := wk_c (fun v hv => by
  rcases (by omega : v = 0 ∨ v = 1 ∨ v = 2 ∨ v = 3) with rfl | rfl | rfl | rfl
  · exact wk9_1_0_2_0_1_0_0
  · exact wk9_1_0_2_0_1_0_1
  · exact wk9_1_0_2_0_1_0_2
  · exact wk9_1_0_2_0_1_0_3)
theorem wk9_1_0_2_0_1_1_0 : wk 9 2 8 5 (aw (aw (aw (aw (aw (aw (aw c0 1 1) 2 0) 3 2) 4 0) 5 1) 6 1) 7 0) = true := by decide +kernel
theorem wk9_1_0_2_0_1_1_1 : wk 9 2 8 6 (aw (aw (aw (aw (aw (aw (aw c0 1 1) 2 0) 3 2) 4 0) 5 1) 6 1) 7 1) = true := by decide +kernel
theorem wk9_1_0_2_0_1_1_2 : wk 9 2 8 7 (aw (aw (aw (aw (aw (aw (aw c0 1 1) 2 0) 3 2) 4 0) 5 1) 6 1) 7 2) = true := by decide +kernel
theorem wk9_1_0_2_0_1_1 : wk 9 3 7 5 (aw (aw (aw (aw (aw (aw c0 1 1) 2 0) 3 2) 4 0) 5 1) 6 1) = true := wk_c (fun v hv => by
  rcases (by omega : v = 0 ∨ v = 1 ∨ v = 2) with rfl | rfl | rfl
  · exact wk9_1_0_2_0_1_1_0
  · exact wk9_1_0_2_0_1_1_1
  · exact wk9_1_0_2_0_1_1_2)
theorem wk9_1_0_2_0_1_2_0 : wk 9 2 8 6 (aw (aw (aw (aw (aw (aw (aw c0 1 1) 2 0) 3 2) 4 0) 5 1) 6 2) 7 0) = true := by decide +kernel
theorem wk9_1_0_2_0_1_2_1 : wk 9 2 8 7 (aw (aw (aw (aw (aw (aw (aw c0 1 1) 2 0) 3 2) 4 0) 5 1) 6 2) 7 1) = true := by decide +kernel
theorem wk9_1_0_2_0_1_2 : wk 9 3 7 6 (aw (aw (aw (aw (aw (aw c0 1 1) 2 0) 3 2) 4 0) 5 1) 6 2) = true := wk_c (fun v hv => by
  rcases (by omega : v = 0 ∨ v = 1) with rfl | rfl
  · exact wk9_1_0_2_0_1_2_0
  · exact wk9_1_0_2_0_1_2_1)
theorem wk9_1_0_2_0_1 : wk 9 4 6 4 (aw (aw (aw (aw (aw c0 1 1) 2 0) 3 2) 4 0) 5 1) = true := wk_c (fun v hv => by
  rcases (by omega : v = 0 ∨ v = 1 ∨ v = 2) with rfl | rfl | rfl
  · exact wk9_1_0_2_0_1_0
  · exact wk9_1_0_2_0_1_1
  · exact wk9_1_0_2_0_1_2)
theorem wk9_1_0_2_0_2_0_0 : wk 9 2 8 5 (aw (aw (aw (aw (aw (aw (aw c0 1 1) 2 0) 3 2) 4 0) 5 2) 6 0) 7 0) = true := by decide +kernel
theorem wk9_1_0_2_0_2_0_1 : wk 9 2 8 6 (aw (aw (aw (aw (aw (aw (aw c0 1 1) 2 0) 3 2) 4 0) 5 2) 6 0) 7 1) = true := by decide +kernel
theorem wk9_1_0_2_0_2_0_2 : wk 9 2 8 7 (aw (aw (aw (aw (aw (aw (aw c0 1 1) 2 0) 3 2) 4 0) 5 2) 6 0) 7 2) = true := by decide +kernel
theorem wk9_1_0_2_0_2_0 : wk 9 3 7 5 (aw (aw (aw (aw (aw (aw c0 1 1) 2 0) 3 2) 4 0) 5 2) 6 0) = true := wk_c (fun v hv => by
  rcases (by omega : v = 0 ∨ v = 1 ∨ v = 2) with rfl | rfl | rfl
  · exact wk9_1_0_2_0_2_0_0
  · exact wk9_1_0_2_0_2_0_1
  · exact wk9_1_0_2_0_2_0_2)
theorem wk9_1_0_2_0_2_1_0 : wk 9 2 8 6 (aw (aw (aw (aw (aw (aw (aw c0 1 1) 2 0) 3 2) 4 0) 5 2) 6 1) 7 0) = true := by decide +kernel
theorem wk9_1_0_2_0_2_1_1 : wk 9 2 8 7 (aw (aw (aw (aw (aw (aw (aw c0 1 1) 2 0) 3 2) 4 0) 5 2) 6 1) 7 1) = true := by decide +kernel
theorem wk9_1_0_2_0_2_1 : wk 9 3 7 6 (aw (aw (aw (aw (aw (aw c0 1 1) 2 0) 3 2) 4 0) 5 2) 6 1) = true := wk_c (fun v hv => by
  rcases (by omega : v = 0 ∨ v = 1) with rfl | rfl
  · exact wk9_1_0_2_0_2_1_0
  · exact wk9_1_0_2_0_2_1_1)
theorem wk9_1_0_2_0_2 : wk 9 4 6 5 (aw (aw (aw (aw (aw c0 1 1) 2 0) 3 2) 4 0) 5 2) = true := wk_c (fun v hv => by
  rcases (by omega : v = 0 ∨ v = 1) with rfl | rfl
  · exact wk9_1_0_2_0_2_0
  · exact wk9_1_0_2_0_2_1)
theorem wk9_1_0_2_0 : wk 9 5 5 3 (aw (aw (aw (aw c0 1 1) 2 0) 3 2) 4 0) = true := wk_c (fun v hv => by
  rcases (by omega : v = 0 ∨ v = 1 ∨ v = 2) with rfl | rfl | rfl
  · exact wk9_1_0_2_0_0
  · exact wk9_1_0_2_0_1
  · exact wk9_1_0_2_0_2)
theorem wk9_1_0_2_1_0_0_0 : wk 9 2 8 4 (aw (aw (aw (aw (aw (aw (aw c0 1 1) 2 0) 3 2) 4 1) 5 0) 6 0) 7 0) = true := by decide +kernel
theorem wk9_1_0_2_1_0_0_1 : wk 9 2 8 5 (aw (aw (aw (aw (aw (aw (aw c0 1 1) 2 0) 3 2) 4 1) 5 0) 6 0) 7 1) = true := by decide +kernel
theorem wk9_1_0_2_1_0_0_2 : wk 9 2 8 6 (aw (aw (aw (aw (aw (aw (aw c0 1 1) 2 0) 3 2) 4 1) 5 0) 6 0) 7 2) = true := by decide +kernel
theorem wk9_1_0_2_1_0_0_3 : wk 9 2 8 7 (aw (aw (aw (aw (aw (aw (aw c0 1 1) 2 0) 3 2) 4 1) 5 0) 6 0) 7 3) = true := by decide +kernel
theorem wk9_1_0_2_1_0_0 : wk 9 3 7 4 (aw (aw (aw (aw (aw (aw c0 1 1) 2 0) 3 2) 4 1) 5 0) 6 0) = true := wk_c (fun v hv => by
  rcases (by omega : v = 0 ∨ v = 1 ∨ v = 2 ∨ v = 3) with rfl | rfl | rfl | rfl
  · exact wk9_1_0_2_1_0_0_0
  · exact wk9_1_0_2_1_0_0_1
  · exact wk9_1_0_2_1_0_0_2
  · exact wk9_1_0_2_1_0_0_3)
theorem wk9_1_0_2_1_0_1_0 : wk 9 2 8 5 (aw (aw (aw (aw (aw (aw (aw c0 1 1) 2 0) 3 2) 4 1) 5 0) 6 1) 7 0) = true := by decide +kernel
theorem wk9_1_0_2_1_0_1_1 : wk 9 2 8 6 (aw (aw (aw (aw (aw (aw (aw c0 1 1) 2 0) 3 2) 4 1) 5 0) 6 1) 7 1) = true := by decide +kernel
theorem wk9_1_0_2_1_0_1_2 : wk 9 2 8 7 (aw (aw (aw (aw (aw (aw (aw c0 1 1) 2 0) 3 2) 4 1) 5 0) 6 1) 7 2) = true := by decide +kernel
theorem wk9_1_0_2_1_0_1 : wk 9 3 7 5 (aw (aw (aw (aw (aw (aw c0 1 1) 2 0) 3 2) 4 1) 5 0) 6 1) = true := wk_c (fun v hv => by
  rcases (by omega : v = 0 ∨ v = 1 ∨ v = 2) with rfl | rfl | rfl
  · exact wk9_1_0_2_1_0_1_0
  · exact wk9_1_0_2_1_0_1_1
  · exact wk9_1_0_2_1_0_1_2)
theorem wk9_1_0_2_1_0_2_0 : wk 9 2 8 6 (aw (aw (aw (aw (aw (aw (aw c0 1 1) 2 0) 3 2) 4 1) 5 0) 6 2) 7 0) = true := by decide +kernel
theorem wk9_1_0_2_1_0_2_1 : wk 9 2 8 7 (aw (aw (aw (aw (aw (aw (aw c0 1 1) 2 0) 3 2) 4 1) 5 0) 6 2) 7 1) = true := by decide +kernel
theorem wk9_1_0_2_1_0_2 : wk 9 3 7 6 (aw (aw (aw (aw (aw (aw c0 1 1) 2 0) 3 2) 4 1) 5 0) 6 2) = true := wk_c (fun v hv => by
  rcases (by omega : v = 0 ∨ v = 1) with rfl | rfl
  · exact wk9_1_0_2_1_0_2_0
  · exact wk9_1_0_2_1_0_2_1)
theorem wk9_1_0_2_1_0 : wk 9 4 6 4 (aw (aw (aw (aw (aw c0 1 1) 2 0) 3 2) 4 1) 5 0) = true := wk_c (fun v hv => by
  rcases (by omega : v = 0 ∨ v = 1 ∨ v = 2) with rfl | rfl | rfl
  · exact wk9_1_0_2_1_0_0
  · exact wk9_1_0_2_1_0_1
  · exact wk9_1_0_2_1_0_2)
theorem wk9_1_0_2_1_1_0_0 : wk 9 2 8 5 (aw (aw (aw (aw (aw (aw (aw c0 1 1) 2 0) 3 2) 4 1) 5 1) 6 0) 7 0) = true := by decide +kernel
theorem wk9_1_0_2_1_1_0_1 : wk 9 2 8 6 (aw (aw (aw (aw (aw (aw (aw c0 1 1) 2 0) 3 2) 4 1) 5 1) 6 0) 7 1) = true := by decide +kernel
theorem wk9_1_0_2_1_1_0_2 : wk 9 2 8 7 (aw (aw (aw (aw (aw (aw (aw c0 1 1) 2 0) 3 2) 4 1) 5 1) 6 0) 7 2) = true := by decide +kernel
theorem wk9_1_0_2_1_1_0 : wk 9 3 7 5 (aw (aw (aw (aw (aw (aw c0 1 1) 2 0) 3 2) 4 1) 5 1) 6 0) = true := wk_c (fun v hv => by
  rcases (by omega : v = 0 ∨ v = 1 ∨ v = 2) with rfl | rfl | rfl
  · exact wk9_1_0_2_1_1_0_0
  · exact wk9_1_0_2_1_1_0_1
  · exact wk9_1_0_2_1_1_0_2)
theorem wk9_1_0_2_1_1_1_0 : wk 9 2 8 6 (aw (aw (aw (aw (aw (aw (aw c0 1 1) 2 0) 3 2) 4 1) 5 1) 6 1) 7 0) = true := by decide +kernel
theorem wk9_1_0_2_1_1_1_1 : wk 9 2 8 7 (aw (aw (aw (aw (aw (aw (aw c0 1 1) 2 0) 3 2) 4 1) 5 1) 6 1) 7 1) = true := by decide +kernel
theorem wk9_1_0_2_1_1_1 : wk 9 3 7 6 (aw (aw (aw (aw (aw (aw c0 1 1) 2 0) 3 2) 4 1) 5 1) 6 1) = true := wk_c (fun v hv => by
  rcases (by omega : v = 0 ∨ v = 1) with rfl | rfl
  · exact wk9_1_0_2_1_1_1_0
  · exact wk9_1_0_2_1_1_1_1)
theorem wk9_1_0_2_1_1 : wk 9 4 6 5 (aw (aw (aw (aw (aw c0 1 1) 2 0) 3 2) 4 1) 5 1) = true := wk_c (fun v hv => by
  rcases (by omega : v = 0 ∨ v = 1) with rfl | rfl
  · exact wk9_1_0_2_1_1_0
  · exact wk9_1_0_2_1_1_1)
theorem wk9_1_0_2_1 : wk 9 5 5 4 (aw (aw (aw (aw c0 1 1) 2 0) 3 2) 4 1) = true := wk_c (fun v hv => by
  rcases (by omega : v = 0 ∨ v = 1) with rfl | rfl
  · exact wk9_1_0_2_1_0
  · exact wk9_1_0_2_1_1)
theorem wk9_1_0_2 : wk 9 6 4 3 (aw (aw (aw c0 1 1) 2 0) 3 2) = true := wk_c (fun v hv => by
  rcases (by omega : v = 0 ∨ v = 1) with rfl | rfl
  · exact wk9_1_0_2_0
  · exact wk9_1_0_2_1)
theorem wk9_1_0 : wk 9 7 3 1 (aw (aw c0 1 1) 2 0) = true := wk_c (fun v hv => by
  rcases (by omega : v = 0 ∨ v = 1 ∨ v = 2) with rfl | rfl | rfl
  · exact wk9_1_0_0
  · exact wk9_1_0_1
  · exact wk9_1_0_2)
theorem wk9_1_1_0_0_0_0_0 : wk 9 2 8 2 (aw (aw (aw (aw (aw (aw (aw c0 1 1) 2 1) 3 0) 4 0) 5 0) 6 0) 7 0) = true := by decide +kernel
theorem wk9_1_1_0_0_0_0_1 : wk 9 2 8 3 (aw (aw (aw (aw (aw (aw (aw c0 1 1) 2 1) 3 0) 4 0) 5 0) 6 0) 7 1) = true := by decide +kernel
theorem wk9_1_1_0_0_0_0_2 : wk 9 2 8 4 (aw (aw (aw (aw (aw (aw (aw c0 1 1) 2 1) 3 0) 4 0) 5 0) 6 0) 7 2) = true := by decide +kernel
theorem wk9_1_1_0_0_0_0_3 : wk 9 2 8 5 (aw (aw (aw (aw (aw (aw (aw c0 1 1) 2 1) 3 0) 4 0) 5 0) 6 0) 7 3) = true := by decide +kernel
theorem wk9_1_1_0_0_0_0_4 : wk 9 2 8 6 (aw (aw (aw (aw (aw (aw (aw c0 1 1) 2 1) 3 0) 4 0) 5 0) 6 0) 7 4) = true := by decide +kernel
theorem wk9_1_1_0_0_0_0_5 : wk 9 2 8 7 (aw (aw (aw (aw (aw (aw (aw c0 1 1) 2 1) 3 0) 4 0) 5 0) 6 0) 7 5) = true := by decide +kernel
theorem wk9_1_1_0_0_0_0 : wk 9 3 7 2 (aw (aw (aw (aw (aw (aw c0 1 1) 2 1) 3 0) 4 0) 5 0) 6 0) = true := wk_c (fun v hv => by
  rcases (by omega : v = 0 ∨ v = 1 ∨ v = 2 ∨ v = 3 ∨ v = 4 ∨ v = 5) with rfl | rfl | rfl | rfl | rfl | rfl
  · exact wk9_1_1_0_0_0_0_0
  · exact wk9_1_1_0_0_0_0_1
  · exact wk9_1_1_0_0_0_0_2
  · exact wk9_1_1_0_0_0_0_3
  · exact wk9_1_1_0_0_0_0_4
  · exact wk9_1_1_0_0_0_0_5)
theorem wk9_1_1_0_0_0_1_0 : wk 9 2 8 3 (aw (aw (aw (aw (aw (aw (aw c0 1 1) 2 1) 3 0) 4 0) 5 0) 6 1) 7 0) = true := by decide +kernel
theorem wk9_1_1_0_0_0_1_1 : wk 9 2 8 4 (aw (aw (aw (aw (aw (aw (aw c0 1 1) 2 1) 3 0) 4 0) 5 0) 6 1) 7 1) = true := by decide +kernel
theorem wk9_1_1_0_0_0_1_2 : wk 9 2 8 5 (aw (aw (aw (aw (aw (aw (aw c0 1 1) 2 1) 3 0) 4 0) 5 0) 6 1) 7 2) = true := by decide +kernel
theorem wk9_1_1_0_0_0_1_3 : wk 9 2 8 6 (aw (aw (aw (aw (aw (aw (aw c0 1 1) 2 1) 3 0) 4 0) 5 0) 6 1) 7 3) = true := by decide +kernel
theorem wk9_1_1_0_0_0_1_4 : wk 9 2 8 7 (aw (aw (aw (aw (aw (aw (aw c0 1 1) 2 1) 3 0) 4 0) 5 0) 6 1) 7 4) = true := by decide +kernel
theorem wk9_1_1_0_0_0_1 : wk 9 3 7 3 (aw (aw (aw (aw (aw (aw c0 1 1) 2 1) 3 0) 4 0) 5 0) 6 1) = true := wk_c (fun v hv => by
  rcases (by omega : v = 0 ∨ v = 1 ∨ v = 2 ∨ v = 3 ∨ v = 4) with rfl | rfl | rfl | rfl | rfl
  · exact wk9_1_1_0_0_0_1_0
  · exact wk9_1_1_0_0_0_1_1
  · exact wk9_1_1_0_0_0_1_2
  · exact wk9_1_1_0_0_0_1_3
  · exact wk9_1_1_0_0_0_1_4)
theorem wk9_1_1_0_0_0_2_0 : wk 9 2 8 4 (aw (aw (aw (aw (aw (aw (aw c0 1 1) 2 1) 3 0) 4 0) 5 0) 6 2) 7 0) = true := by decide +kernel
theorem wk9_1_1_0_0_0_2_1 : wk 9 2 8 5 (aw (aw (aw (aw (aw (aw (aw c0 1 1) 2 1) 3 0) 4 0) 5 0) 6 2) 7 1) = true := by decide +kernel
theorem wk9_1_1_0_0_0_2_2 : wk 9 2 8 6 (aw (aw (aw (aw (aw (aw (aw c0 1 1) 2 1) 3 0) 4 0) 5 0) 6 2) 7 2) = true := by decide +kernel
theorem wk9_1_1_0_0_0_2_3 : wk 9 2 8 7 (aw (aw (aw (aw (aw (aw (aw c0 1 1) 2 1) 3 0) 4 0) 5 0) 6 2) 7 3) = true := by decide +kernel
theorem wk9_1_1_0_0_0_2 : wk 9 3 7 4 (aw (aw (aw (aw (aw (aw c0 1 1) 2 1) 3 0) 4 0) 5 0) 6 2) = true := wk_c (fun v hv => by
  rcases (by omega : v = 0 ∨ v = 1 ∨ v = 2 ∨ v = 3) with rfl | rfl | rfl | rfl
  · exact wk9_1_1_0_0_0_2_0
  · exact wk9_1_1_0_0_0_2_1
  · exact wk9_1_1_0_0_0_2_2
  · exact wk9_1_1_0_0_0_2_3)
theorem wk9_1_1_0_0_0_3_0 : wk 9 2 8 5 (aw (aw (aw (aw (aw (aw (aw c0 1 1) 2 1) 3 0) 4 0) 5 0) 6 3) 7 0) = true := by decide +kernel
theorem wk9_1_1_0_0_0_3_1 : wk 9 2 8 6 (aw (aw (aw (aw (aw (aw (aw c0 1 1) 2 1) 3 0) 4 0) 5 0) 6 3) 7 1) = true := by decide +kernel
theorem wk9_1_1_0_0_0_3_2 : wk 9 2 8 7 (aw (aw (aw (aw (aw (aw (aw c0 1 1) 2 1) 3 0) 4 0) 5 0) 6 3) 7 2) = true := by decide +kernel
theorem wk9_1_1_0_0_0_3 : wk 9 3 7 5 (aw (aw (aw (aw (aw (aw c0 1 1) 2 1) 3 0) 4 0) 5 0) 6 3) = true := wk_c (fun v hv => by
  rcases (by omega : v = 0 ∨ v = 1 ∨ v = 2) with rfl | rfl | rfl
  · exact wk9_1_1_0_0_0_3_0
  · exact wk9_1_1_0_0_0_3_1
  · exact wk9_1_1_0_0_0_3_2)
theorem wk9_1_1_0_0_0_4_0 : wk 9 2 8 6 (aw (aw (aw (aw (aw (aw (aw c0 1 1) 2 1) 3 0) 4 0) 5 0) 6 4) 7 0) = true := by decide +kernel
theorem wk9_1_1_0_0_0_4_1 : wk 9 2 8 7 (aw (aw (aw (aw (aw (aw (aw c0 1 1) 2 1) 3 0) 4 0) 5 0) 6 4) 7 1) = true := by decide +kernel
theorem wk9_1_1_0_0_0_4 : wk 9 3 7 6 (aw (aw (aw (aw (aw (aw c0 1 1) 2 1) 3 0) 4 0) 5 0) 6 4) = true := wk_c (fun v hv => by
  rcases (by omega : v = 0 ∨ v = 1) with rfl | rfl
  · exact wk9_1_1_0_0_0_4_0
  · exact wk9_1_1_0_0_0_4_1)
theorem wk9_1_1_0_0_0 : wk 9 4 6 2 (aw (aw (aw (aw (aw c0 1 1) 2 1) 3 0) 4 0) 5 0) = true := wk_c (fun v hv => by
  rcases (by omega : v = 0 ∨ v = 1 ∨ v = 2 ∨ v = 3 ∨ v = 4) with rfl | rfl | rfl | rfl | rfl
  · exact wk9_1_1_0_0_0_0
  · exact wk9_1_1_0_0_0_1
  · exact wk9_1_1_0_0_0_2
  · exact wk9_1_1_0_0_0_3
  · exact wk9_1_1_0_0_0_4)
theorem wk9_1_1_0_0_1_0_0 : wk 9 2 8 3 (aw (aw (aw (aw (aw (aw (aw c0 1 1) 2 1) 3 0) 4 0) 5 1) 6 0) 7 0) = true := by decide +kernel
theorem wk9_1_1_0_0_1_0_1 : wk 9 2 8 4 (aw (aw (aw (aw (aw (aw (aw c0 1 1) 2 1) 3 0) 4 0) 5 1) 6 0) 7 1) = true := by decide +kernel
theorem wk9_1_1_0_0_1_0_2 : wk 9 2 8 5 (aw (aw (aw (aw (aw (aw (aw c0 1 1) 2 1) 3 0) 4 0) 5 1) 6 0) 7 2) = true := by decide +kernel
theorem wk9_1_1_0_0_1_0_3 : wk 9 2 8 6 (aw (aw (aw (aw (aw (aw (aw c0 1 1) 2 1) 3 0) 4 0) 5 1) 6 0) 7 3) = true := by decide +kernel
theorem wk9_1_1_0_0_1_0_4 : wk 9 2 8 7 (aw (aw (aw (aw (aw (aw (aw c0 1 1) 2 1) 3 0) 4 0) 5 1) 6 0) 7 4) = true := by decide +kernel
theorem wk9_1_1_0_0_1_0 : wk 9 3 7 3 (aw (aw (aw (aw (aw (aw c0 1 1) 2 1) 3 0) 4 0) 5 1) 6 0) = true := wk_c (fun v hv => by
  rcases (by omega : v = 0 ∨ v = 1 ∨ v = 2 ∨ v = 3 ∨ v = 4) with rfl | rfl | rfl | rfl | rfl
  · exact wk9_1_1_0_0_1_0_0
  · exact wk9_1_1_0_0_1_0_1
  · exact wk9_1_1_0_0_1_0_2
  · exact wk9_1_1_0_0_1_0_3
  · exact wk9_1_1_0_0_1_0_4)
theorem wk9_1_1_0_0_1_1_0 : wk 9 2 8 4 (aw (aw (aw (aw (aw (aw (aw c0 1 1) 2 1) 3 0) 4 0) 5 1) 6 1) 7 0) = true := by decide +kernel
theorem wk9_1_1_0_0_1_1_1 : wk 9 2 8 5 (aw (aw (aw (aw (aw (aw (aw c0 1 1) 2 1) 3 0) 4 0) 5 1) 6 1) 7 1) = true := by decide +kernel
theorem wk9_1_1_0_0_1_1_2 : wk 9 2 8 6 (aw (aw (aw (aw (aw (aw (aw c0 1 1) 2 1) 3 0) 4 0) 5 1) 6 1) 7 2) = true := by decide +kernel
theorem wk9_1_1_0_0_1_1_3 : wk 9 2 8 7 (aw (aw (aw (aw (aw (aw (aw c0 1 1) 2 1) 3 0) 4 0) 5 1) 6 1) 7 3) = true := by decide +kernel
theorem wk9_1_1_0_0_1_1 : wk 9 3 7 4 (aw (aw (aw (aw (aw (aw c0 1 1) 2 1) 3 0) 4 0) 5 1) 6 1) = true := wk_c (fun v hv => by
  rcases (by omega : v = 0 ∨ v = 1 ∨ v = 2 ∨ v = 3) with rfl | rfl | rfl | rfl
  · exact wk9_1_1_0_0_1_1_0
  · exact wk9_1_1_0_0_1_1_1
  · exact wk9_1_1_0_0_1_1_2
  · exact wk9_1_1_0_0_1_1_3)
theorem wk9_1_1_0_0_1_2_0 : wk 9 2 8 5 (aw (aw (aw (aw (aw (aw (aw c0 1 1) 2 1) 3 0) 4 0) 5 1) 6 2) 7 0) = true := by decide +kernel
theorem wk9_1_1_0_0_1_2_1 : wk 9 2 8 6 (aw (aw (aw (aw (aw (aw (aw c0 1 1) 2 1) 3 0) 4 0) 5 1) 6 2) 7 1) = true := by decide +kernel
theorem wk9_1_1_0_0_1_2_2 : wk 9 2 8 7 (aw (aw (aw (aw (aw (aw (aw c0 1 1) 2 1) 3 0) 4 0) 5 1) 6 2) 7 2) = true := by decide +kernel
theorem wk9_1_1_0_0_1_2 : wk 9 3 7 5 (aw (aw (aw (aw (aw (aw c0 1 1) 2 1) 3 0) 4 0) 5 1) 6 2) = true := wk_c (fun v hv => by
  rcases (by omega : v = 0 ∨ v = 1 ∨ v = 2) with rfl | rfl | rfl
  · exact wk9_1_1_0_0_1_2_0
  · exact wk9_1_1_0_0_1_2_1
  · exact wk9_1_1_0_0_1_2_2)
theorem wk9_1_1_0_0_1_3_0 : wk 9 2 8 6 (aw (aw (aw (aw (aw (aw (aw c0 1 1) 2 1) 3 0) 4 0) 5 1) 6 3) 7 0) = true := by decide +kernel
theorem wk9_1_1_0_0_1_3_1 : wk 9 2 8 7 (aw (aw (aw (aw (aw (aw (aw c0 1 1) 2 1) 3 0) 4 0) 5 1) 6 3) 7 1) = true := by decide +kernel
theorem wk9_1_1_0_0_1_3 : wk 9 3 7 6 (aw (aw (aw (aw (aw (aw c0 1 1) 2 1) 3 0) 4 0) 5 1) 6 3) = true := wk_c (fun v hv => by
  rcases (by omega : v = 0 ∨ v = 1) with rfl | rfl
  · exact wk9_1_1_0_0_1_3_0
  · exact wk9_1_1_0_0_1_3_1)
theorem wk9_1_1_0_0_1 : wk 9 4 6 3 (aw (aw (aw (aw (aw c0 1 1) 2 1) 3 0) 4 0) 5 1) = true := wk_c (fun v hv => by
  rcases (by omega : v = 0 ∨ v = 1 ∨ v = 2 ∨ v = 3) with rfl | rfl | rfl | rfl
  · exact wk9_1_1_0_0_1_0
  · exact wk9_1_1_0_0_1_1
  · exact wk9_1_1_0_0_1_2
  · exact wk9_1_1_0_0_1_3)
theorem wk9_1_1_0_0_2_0_0 : wk 9 2 8 4 (aw (aw (aw (aw (aw (aw (aw c0 1 1) 2 1) 3 0) 4 0) 5 2) 6 0) 7 0) = true := by decide +kernel
theorem wk9_1_1_0_0_2_0_1 : wk 9 2 8 5 (aw (aw (aw (aw (aw (aw (aw c0 1 1) 2 1) 3 0) 4 0) 5 2) 6 0) 7 1) = true := by decide +kernel
theorem wk9_1_1_0_0_2_0_2 : wk 9 2 8 6 (aw (aw (aw (aw (aw (aw (aw c0 1 1) 2 1) 3 0) 4 0) 5 2) 6 0) 7 2) = true := by decide +kernel
theorem wk9_1_1_0_0_2_0_3 : wk 9 2 8 7 (aw (aw (aw (aw (aw (aw (aw c0 1 1) 2 1) 3 0) 4 0) 5 2) 6 0) 7 3) = true := by decide +kernel
theorem wk9_1_1_0_0_2_0 : wk 9 3 7 4 (aw (aw (aw (aw (aw (aw c0 1 1) 2 1) 3 0) 4 0) 5 2) 6 0) = true := wk_c (fun v hv => by
  rcases (by omega : v = 0 ∨ v = 1 ∨ v = 2 ∨ v = 3) with rfl | rfl | rfl | rfl
  · exact wk9_1_1_0_0_2_0_0
  · exact wk9_1_1_0_0_2_0_1
  · exact wk9_1_1_0_0_2_0_2
  · exact wk9_1_1_0_0_2_0_3)
theorem wk9_1_1_0_0_2_1_0 : wk 9 2 8 5 (aw (aw (aw (aw (aw (aw (aw c0 1 1) 2 1) 3 0) 4 0) 5 2) 6 1) 7 0) = true := by decide +kernel
theorem wk9_1_1_0_0_2_1_1 : wk 9 2 8 6 (aw (aw (aw (aw (aw (aw (aw c0 1 1) 2 1) 3 0) 4 0) 5 2) 6 1) 7 1) = true := by decide +kernel
theorem wk9_1_1_0_0_2_1_2 : wk 9 2 8 7 (aw (aw (aw (aw (aw (aw (aw c0 1 1) 2 1) 3 0) 4 0) 5 2) 6 1) 7 2) = true := by decide +kernel
theorem wk9_1_1_0_0_2_1 : wk 9 3 7 5 (aw (aw (aw (aw (aw (aw c0 1 1) 2 1) 3 0) 4 0) 5 2) 6 1) = true := wk_c (fun v hv => by
  rcases (by omega : v = 0 ∨ v = 1 ∨ v = 2) with rfl | rfl | rfl
  · exact wk9_1_1_0_0_2_1_0
  · exact wk9_1_1_0_0_2_1_1
  · exact wk9_1_1_0_0_2_1_2)
theorem wk9_1_1_0_0_2_2_0 : wk 9 2 8 6 (aw (aw (aw (aw (aw (aw (aw c0 1 1) 2 1) 3 0) 4 0) 5 2) 6 2) 7 0) = true := by decide +kernel
theorem wk9_1_1_0_0_2_2_1 : wk 9 2 8 7 (aw (aw (aw (aw (aw (aw (aw c0 1 1) 2 1) 3 0) 4 0) 5 2) 6 2) 7 1) = true := by decide +kernel
theorem wk9_1_1_0_0_2_2 : wk 9 3 7 6 (aw (aw (aw (aw (aw (aw c0 1 1) 2 1) 3 0) 4 0) 5 2) 6 2) = true := wk_c (fun v hv => by
  rcases (by omega : v = 0 ∨ v = 1) with rfl | rfl
  · exact wk9_1_1_0_0_2_2_0
  · exact wk9_1_1_0_0_2_2_1)
theorem wk9_1_1_0_0_2 : wk 9 4 6 4 (aw (aw (aw (aw (aw c0 1 1) 2 1) 3 0) 4 0) 5 2) = true := wk_c (fun v hv => by
  rcases (by omega : v = 0 ∨ v = 1 ∨ v = 2) with rfl | rfl | rfl
  · exact wk9_1_1_0_0_2_0
  · exact wk9_1_1_0_0_2_1
  · exact wk9_1_1_0_0_2_2)
theorem wk9_1_1_0_0_3_0_0 : wk 9 2 8 5 (aw (aw (aw (aw (aw (aw (aw c0 1 1) 2 1) 3 0) 4 0) 5 3) 6 0) 7 0) = true := by decide +kernel
theorem wk9_1_1_0_0_3_0_1 : wk 9 2 8 6 (aw (aw (aw (aw (aw (aw (aw c0 1 1) 2 1) 3 0) 4 0) 5 3) 6 0) 7 1) = true := by decide +kernel
theorem wk9_1_1_0_0_3_0_2 : wk 9 2 8 7 (aw (aw (aw (aw (aw (aw (aw c0 1 1) 2 1) 3 0) 4 0) 5 3) 6 0) 7 2) = true := by decide +kernel
theorem wk9_1_1_0_0_3_0 : wk 9 3 7 5 (aw (aw (aw (aw (aw (aw c0 1 1) 2 1) 3 0) 4 0) 5 3) 6 0) = true := wk_c (fun v hv => by
  rcases (by omega : v = 0 ∨ v = 1 ∨ v = 2) with rfl | rfl | rfl
  · exact wk9_1_1_0_0_3_0_0
  · exact wk9_1_1_0_0_3_0_1
  · exact wk9_1_1_0_0_3_0_2)
theorem wk9_1_1_0_0_3_1_0 : wk 9 2 8 6 (aw (aw (aw (aw (aw (aw (aw c0 1 1) 2 1) 3 0) 4 0) 5 3) 6 1) 7 0) = true := by decide +kernel
theorem wk9_1_1_0_0_3_1_1 : wk 9 2 8 7 (aw (aw (aw (aw (aw (aw (aw c0 1 1) 2 1) 3 0) 4 0) 5 3) 6 1) 7 1) = true := by decide +kernel
theorem wk9_1_1_0_0_3_1 : wk 9 3 7 6 (aw (aw (aw (aw (aw (aw c0 1 1) 2 1) 3 0) 4 0) 5 3) 6 1) = true := wk_c (fun v hv => by
  rcases (by omega : v = 0 ∨ v = 1) with rfl | rfl
  · exact wk9_1_1_0_0_3_1_0
  · exact wk9_1_1_0_0_3_1_1)
theorem wk9_1_1_0_0_3 : wk 9 4 6 5 (aw (aw (aw (aw (aw c0 1 1) 2 1) 3 0) 4 0) 5 3) = true := wk_c (fun v hv => by
  rcases (by omega : v = 0 ∨ v = 1) with rfl | rfl
  · exact wk9_1_1_0_0_3_0
  · exact wk9_1_1_0_0_3_1)
theorem wk9_1_1_0_0 : wk 9 5 5 2 (aw (aw (aw (aw c0 1 1) 2 1) 3 0) 4 0) = true := wk_c (fun v hv => by
  rcases (by omega : v = 0 ∨ v = 1 ∨ v = 2 ∨ v = 3) with rfl | rfl | rfl | rfl
  · exact wk9_1_1_0_0_0
  · exact wk9_1_1_0_0_1
  · exact wk9_1_1_0_0_2
  · exact wk9_1_1_0_0_3)
theorem wk9_1_1_0_1_0_0_0 : wk 9 2 8 3 (aw (aw (aw (aw (aw (aw (aw c0 1 1) 2 1) 3 0) 4 1) 5 0) 6 0) 7 0) = true := by decide +kernel
theorem wk9_1_1_0_1_0_0_1 : wk 9 2 8 4 (aw (aw (aw (aw (aw (aw (aw c0 1 1) 2 1) 3 0) 4 1) 5 0) 6 0) 7 1) = true := by decide +kernel
theorem wk9_1_1_0_1_0_0_2 : wk 9 2 8 5 (aw (aw (aw (aw (aw (aw (aw c0 1 1) 2 1) 3 0) 4 1) 5 0) 6 0) 7 2) = true := by decide +kernel
theorem wk9_1_1_0_1_0_0_3 : wk 9 2 8 6 (aw (aw (aw (aw (aw (aw (aw c0 1 1) 2 1) 3 0) 4 1) 5 0) 6 0) 7 3) = true := by decide +kernel
theorem wk9_1_1_0_1_0_0_4 : wk 9 2 8 7 (aw (aw (aw (aw (aw (aw (aw c0 1 1) 2 1) 3 0) 4 1) 5 0) 6 0) 7 4) = true := by decide +kernel
theorem wk9_1_1_0_1_0_0 : wk 9 3 7 3 (aw (aw (aw (aw (aw (aw c0 1 1) 2 1) 3 0) 4 1) 5 0) 6 0) = true := wk_c (fun v hv => by
  rcases (by omega : v = 0 ∨ v = 1 ∨ v = 2 ∨ v = 3 ∨ v = 4) with rfl | rfl | rfl | rfl | rfl
  · exact wk9_1_1_0_1_0_0_0
  · exact wk9_1_1_0_1_0_0_1
  · exact wk9_1_1_0_1_0_0_2
  · exact wk9_1_1_0_1_0_0_3
  · exact wk9_1_1_0_1_0_0_4)
theorem wk9_1_1_0_1_0_1_0 : wk 9 2 8 4 (aw (aw (aw (aw (aw (aw (aw c0 1 1) 2 1) 3 0) 4 1) 5 0) 6 1) 7 0) = true := by decide +kernel
theorem wk9_1_1_0_1_0_1_1 : wk 9 2 8 5 (aw (aw (aw (aw (aw (aw (aw c0 1 1) 2 1) 3 0) 4 1) 5 0) 6 1) 7 1) = true := by decide +kernel
theorem wk9_1_1_0_1_0_1_2 : wk 9 2 8 6 (aw (aw (aw (aw (aw (aw (aw c0 1 1) 2 1) 3 0) 4 1) 5 0) 6 1) 7 2) = true := by decide +kernel
theorem wk9_1_1_0_1_0_1_3 : wk 9 2 8 7 (aw (aw (aw (aw (aw (aw (aw c0 1 1) 2 1) 3 0) 4 1) 5 0) 6 1) 7 3) = true := by decide +kernel
theorem wk9_1_1_0_1_0_1 : wk 9 3 7 4 (aw (aw (aw (aw (aw (aw c0 1 1) 2 1) 3 0) 4 1) 5 0) 6 1) = true := wk_c (fun v hv => by
  rcases (by omega : v = 0 ∨ v = 1 ∨ v = 2 ∨ v = 3) with rfl | rfl | rfl | rfl
  · exact wk9_1_1_0_1_0_1_0
  · exact wk9_1_1_0_1_0_1_1
  · exact wk9_1_1_0_1_0_1_2
  · exact wk9_1_1_0_1_0_1_3)
theorem wk9_1_1_0_1_0_2_0 : wk 9 2 8 5 (aw (aw (aw (aw (aw (aw (aw c0 1 1) 2 1) 3 0) 4 1) 5 0) 6 2) 7 0) = true := by decide +kernel
theorem wk9_1_1_0_1_0_2_1 : wk 9 2 8 6 (aw (aw (aw (aw (aw (aw (aw c0 1 1) 2 1) 3 0) 4 1) 5 0) 6 2) 7 1) = true := by decide +kernel
theorem wk9_1_1_0_1_0_2_2 : wk 9 2 8 7 (aw (aw (aw (aw (aw (aw (aw c0 1 1) 2 1) 3 0) 4 1) 5 0) 6 2) 7 2) = true := by decide +kernel
theorem wk9_1_1_0_1_0_2 : wk 9 3 7 5 (aw (aw (aw (aw (aw (aw c0 1 1) 2 1) 3 0) 4 1) 5 0) 6 2) = true := wk_c (fun v hv => by
  rcases (by omega : v = 0 ∨ v = 1 ∨ v = 2) with rfl | rfl | rfl
  · exact wk9_1_1_0_1_0_2_0
  · exact wk9_1_1_0_1_0_2_1
  · exact wk9_1_1_0_1_0_2_2)
theorem wk9_1_1_0_1_0_3_0 : wk 9 2 8 6 (aw (aw (aw (aw (aw (aw (aw c0 1 1) 2 1) 3 0) 4 1) 5 0) 6 3) 7 0) = true := by decide +kernel
theorem wk9_1_1_0_1_0_3_1 : wk 9 2 8 7 (aw (aw (aw (aw (aw (aw (aw c0 1 1) 2 1) 3 0) 4 1) 5 0) 6 3) 7 1) = true := by decide +kernel
theorem wk9_1_1_0_1_0_3 : wk 9 3 7 6 (aw (aw (aw (aw (aw (aw c0 1 1) 2 1) 3 0) 4 1) 5 0) 6 3) = true := wk_c (fun v hv => by
  rcases (by omega : v = 0 ∨ v = 1) with rfl | rfl
  · exact wk9_1_1_0_1_0_3_0
  · exact wk9_1_1_0_1_0_3_1)
theorem wk9_1_1_0_1_0 : wk 9 4 6 3 (aw (aw (aw (aw (aw c0 1 1) 2 1) 3 0) 4 1) 5 0) = true := wk_c (fun v hv => by
  rcases (by omega : v = 0 ∨ v = 1 ∨ v = 2 ∨ v = 3) with rfl | rfl | rfl | rfl
  · exact wk9_1_1_0_1_0_0
  · exact wk9_1_1_0_1_0_1
  · exact wk9_1_1_0_1_0_2
  · exact wk9_1_1_0_1_0_3)
theorem wk9_1_1_0_1_1_0_0 : wk 9 2 8 4 (aw (aw (aw (aw (aw (aw (aw c0 1 1) 2 1) 3 0) 4 1) 5 1) 6 0) 7 0) = true := by decide +kernel
theorem wk9_1_1_0_1_1_0_1 : wk 9 2 8 5 (aw (aw (aw (aw (aw (aw (aw c0 1 1) 2 1) 3 0) 4 1) 5 1) 6 0) 7 1) = true := by decide +kernel
theorem wk9_1_1_0_1_1_0_2 : wk 9 2 8 6 (aw (aw (aw (aw (aw (aw (aw c0 1 1) 2 1) 3 0) 4 1) 5 1) 6 0) 7 2) = true := by decide +kernel
theorem wk9_1_1_0_1_1_0_3 : wk 9 2 8 7 (aw (aw (aw (aw (aw (aw (aw c0 1 1) 2 1) 3 0) 4 1) 5 1) 6 0) 7 3) = true := by decide +kernel
theorem wk9_1_1_0_1_1_0 : wk 9 3 7 4 (aw (aw (aw (aw (aw (aw c0 1 1) 2 1) 3 0) 4 1) 5 1) 6 0) = true := wk_c (fun v hv => by
  rcases (by omega : v = 0 ∨ v = 1 ∨ v = 2 ∨ v = 3) with rfl | rfl | rfl | rfl
  · exact wk9_1_1_0_1_1_0_0
  · exact wk9_1_1_0_1_1_0_1
  · exact wk9_1_1_0_1_1_0_2
  · exact wk9_1_1_0_1_1_0_3)
theorem wk9_1_1_0_1_1_1_0 : wk 9 2 8 5 (aw (aw (aw (aw (aw (aw (aw c0 1 1) 2 1) 3 0) 4 1) 5 1) 6 1) 7 0) = true := by decide +kernel
theorem wk9_1_1_0_1_1_1_1 : wk 9 2 8 6 (aw (aw (aw (aw (aw (aw (aw c0 1 1) 2 1) 3 0) 4 1) 5 1) 6 1) 7 1) = true := by decide +kernel
theorem wk9_1_1_0_1_1_1_2 : wk 9 2 8 7 (aw (aw (aw (aw (aw (aw (aw c0 1 1) 2 1) 3 0) 4 1) 5 1) 6 1) 7 2) = true := by decide +kernel
theorem wk9_1_1_0_1_1_1 : wk 9 3 7 5 (aw (aw (aw (aw (aw (aw c0 1 1) 2 1) 3 0) 4 1) 5 1) 6 1) = true := wk_c (fun v hv => by
  rcases (by omega : v = 0 ∨ v = 1 ∨ v = 2) with rfl | rfl | rfl
  · exact wk9_1_1_0_1_1_1_0
  · exact wk9_1_1_0_1_1_1_1
  · exact wk9_1_1_0_1_1_1_2)
theorem wk9_1_1_0_1_1_2_0 : wk 9 2 8 6 (aw (aw (aw (aw (aw (aw (aw c0 1 1) 2 1) 3 0) 4 1) 5 1) 6 2) 7 0) = true := by decide +kernel
theorem wk9_1_1_0_1_1_2_1 : wk 9 2 8 7 (aw (aw (aw (aw (aw (aw (aw c0 1 1) 2 1) 3 0) 4 1) 5 1) 6 2) 7 1) = true := by decide +kernel
theorem wk9_1_1_0_1_1_2 : wk 9 3 7 6 (aw (aw (aw (aw (aw (aw c0 1 1) 2 1) 3 0) 4 1) 5 1) 6 2) = true := wk_c (fun v hv => by
  rcases (by omega : v = 0 ∨ v = 1) with rfl | rfl
  · exact wk9_1_1_0_1_1_2_0
  · exact wk9_1_1_0_1_1_2_1)
theorem wk9_1_1_0_1_1 : wk 9 4 6 4 (aw (aw (aw (aw (aw c0 1 1) 2 1) 3 0) 4 1) 5 1) = true := wk_c (fun v hv => by
  rcases (by omega : v = 0 ∨ v = 1 ∨ v = 2) with rfl | rfl | rfl
  · exact wk9_1_1_0_1_1_0
  · exact wk9_1_1_0_1_1_1
  · exact wk9_1_1_0_1_1_2)
theorem wk9_1_1_0_1_2_0_0 : wk 9 2 8 5 (aw (aw (aw (aw (aw (aw (aw c0 1 1) 2 1) 3 0) 4 1) 5 2) 6 0) 7 0) = true := by decide +kernel
theorem wk9_1_1_0_1_2_0_1 : wk 9 2 8 6 (aw (aw (aw (aw (aw (aw (aw c0 1 1) 2 1) 3 0) 4 1) 5 2) 6 0) 7 1) = true := by decide +kernel
theorem wk9_1_1_0_1_2_0_2 : wk 9 2 8 7 (aw (aw (aw (aw (aw (aw (aw c0 1 1) 2 1) 3 0) 4 1) 5 2) 6 0) 7 2) = true := by decide +kernel
theorem wk9_1_1_0_1_2_0 : wk 9 3 7 5 (aw (aw (aw (aw (aw (aw c0 1 1) 2 1) 3 0) 4 1) 5 2) 6 0) = true := wk_c (fun v hv => by
  rcases (by omega : v = 0 ∨ v = 1 ∨ v = 2) with rfl | rfl | rfl
  · exact wk9_1_1_0_1_2_0_0
  · exact wk9_1_1_0_1_2_0_1
  · exact wk9_1_1_0_1_2_0_2)
theorem wk9_1_1_0_1_2_1_0 : wk 9 2 8 6 (aw (aw (aw (aw (aw (aw (aw c0 1 1) 2 1) 3 0) 4 1) 5 2) 6 1) 7 0) = true := by decide +kernel
theorem wk9_1_1_0_1_2_1_1 : wk 9 2 8 7 (aw (aw (aw (aw (aw (aw (aw c0 1 1) 2 1) 3 0) 4 1) 5 2) 6 1) 7 1) = true := by decide +kernel
theorem wk9_1_1_0_1_2_1 : wk 9 3 7 6 (aw (aw (aw (aw (aw (aw c0 1 1) 2 1) 3 0) 4 1) 5 2) 6 1) = true := wk_c (fun v hv => by
  rcases (by omega : v = 0 ∨ v = 1) with rfl | rfl
  · exact wk9_1_1_0_1_2_1_0
  · exact wk9_1_1_0_1_2_1_1)
theorem wk9_1_1_0_1_2 : wk 9 4 6 5 (aw (aw (aw (aw (aw c0 1 1) 2 1) 3 0) 4 1) 5 2) = true := wk_c (fun v hv => by
  rcases (by omega : v = 0 ∨ v = 1) with rfl | rfl
  · exact wk9_1_1_0_1_2_0
  · exact wk9_1_1_0_1_2_1)
theorem wk9_1_1_0_1 : wk 9 5 5 3 (aw (aw (aw (aw c0 1 1) 2 1) 3 0) 4 1) = true := wk_c (fun v hv => by
  rcases (by omega : v = 0 ∨ v = 1 ∨ v = 2) with rfl | rfl | rfl
  · exact wk9_1_1_0_1_0
  · exact wk9_1_1_0_1_1
  · exact wk9_1_1_0_1_2)
theorem wk9_1_1_0_2_0_0_0 : wk 9 2 8 4 (aw (aw (aw (aw (aw (aw (aw c0 1 1) 2 1) 3 0) 4 2) 5 0) 6 0) 7 0) = true := by decide +kernel
theorem wk9_1_1_0_2_0_0_1 : wk 9 2 8 5 (aw (aw (aw (aw (aw (aw (aw c0 1 1) 2 1) 3 0) 4 2) 5 0) 6 0) 7 1) = true := by decide +kernel
theorem wk9_1_1_0_2_0_0_2 : wk 9 2 8 6 (aw (aw (aw (aw (aw (aw (aw c0 1 1) 2 1) 3 0) 4 2) 5 0) 6 0) 7 2) = true := by decide +kernel
theorem wk9_1_1_0_2_0_0_3 : wk 9 2 8 7 (aw (aw (aw (aw (aw (aw (aw c0 1 1) 2 1) 3 0) 4 2) 5 0) 6 0) 7 3) = true := by decide +kernel
theorem wk9_1_1_0_2_0_0 : wk 9 3 7 4 (aw (aw (aw (aw (aw (aw c0 1 1) 2 1) 3 0) 4 2) 5 0) 6 0) = true := wk_c (fun v hv => by
  rcases (by omega : v = 0 ∨ v = 1 ∨ v = 2 ∨ v = 3) with rfl | rfl | rfl | rfl
  · exact wk9_1_1_0_2_0_0_0
  · exact wk9_1_1_0_2_0_0_1
  · exact wk9_1_1_0_2_0_0_2
  · exact wk9_1_1_0_2_0_0_3)
theorem wk9_1_1_0_2_0_1_0 : wk 9 2 8 5 (aw (aw (aw (aw (aw (aw (aw c0 1 1) 2 1) 3 0) 4 2) 5 0) 6 1) 7 0) = true := by decide +kernel
theorem wk9_1_1_0_2_0_1_1 : wk 9 2 8 6 (aw (aw (aw (aw (aw (aw (aw c0 1 1) 2 1) 3 0) 4 2) 5 0) 6 1) 7 1) = true := by decide +kernel
theorem wk9_1_1_0_2_0_1_2 : wk 9 2 8 7 (aw (aw (aw (aw (aw (aw (aw c0 1 1) 2 1) 3 0) 4 2) 5 0) 6 1) 7 2) = true := by decide +kernel
theorem wk9_1_1_0_2_0_1 : wk 9 3 7 5 (aw (aw (aw (aw (aw (aw c0 1 1) 2 1) 3 0) 4 2) 5 0) 6 1) = true := wk_c (fun v hv => by
  rcases (by omega : v = 0 ∨ v = 1 ∨ v = 2) with rfl | rfl | rfl
  · exact wk9_1_1_0_2_0_1_0
  · exact wk9_1_1_0_2_0_1_1
  · exact wk9_1_1_0_2_0_1_2)
theorem wk9_1_1_0_2_0_2_0 : wk 9 2 8 6 (aw (aw (aw (aw (aw (aw (aw c0 1 1) 2 1) 3 0) 4 2) 5 0) 6 2) 7 0) = true := by decide +kernel
theorem wk9_1_1_0_2_0_2_1 : wk 9 2 8 7 (aw (aw (aw (aw (aw (aw (aw c0 1 1) 2 1) 3 0) 4 2) 5 0) 6 2) 7 1) = true := by decide +kernel
theorem wk9_1_1_0_2_0_2 : wk 9 3 7 6 (aw (aw (aw (aw (aw (aw c0 1 1) 2 1) 3 0) 4 2) 5 0) 6 2) = true := wk_c (fun v hv => by
  rcases (by omega : v = 0 ∨ v = 1) with rfl | rfl
  · exact wk9_1_1_0_2_0_2_0
  · exact wk9_1_1_0_2_0_2_1)
theorem wk9_1_1_0_2_0 : wk 9 4 6 4 (aw (aw (aw (aw (aw c0 1 1) 2 1) 3 0) 4 2) 5 0) = true := wk_c (fun v hv => by
  rcases (by omega : v = 0 ∨ v = 1 ∨ v = 2) with rfl | rfl | rfl
  · exact wk9_1_1_0_2_0_0
  · exact wk9_1_1_0_2_0_1
  · exact wk9_1_1_0_2_0_2)
theorem wk9_1_1_0_2_1_0_0 : wk 9 2 8 5 (aw (aw (aw (aw (aw (aw (aw c0 1 1) 2 1) 3 0) 4 2) 5 1) 6 0) 7 0) = true := by decide +kernel
theorem wk9_1_1_0_2_1_0_1 : wk 9 2 8 6 (aw (aw (aw (aw (aw (aw (aw c0 1 1) 2 1) 3 0) 4 2) 5 1) 6 0) 7 1) = true := by decide +kernel
theorem wk9_1_1_0_2_1_0_2 : wk 9 2 8 7 (aw (aw (aw (aw (aw (aw (aw c0 1 1) 2 1) 3 0) 4 2) 5 1) 6 0) 7 2) = true := by decide +kernel
theorem wk9_1_1_0_2_1_0 : wk 9 3 7 5 (aw (aw (aw (aw (aw (aw c0 1 1) 2 1) 3 0) 4 2) 5 1) 6 0) = true := wk_c (fun v hv => by
  rcases (by omega : v = 0 ∨ v = 1 ∨ v = 2) with rfl | rfl | rfl
  · exact wk9_1_1_0_2_1_0_0
  · exact wk9_1_1_0_2_1_0_1
  · exact wk9_1_1_0_2_1_0_2)
theorem wk9_1_1_0_2_1_1_0 : wk 9 2 8 6 (aw (aw (aw (aw (aw (aw (aw c0 1 1) 2 1) 3 0) 4 2) 5 1) 6 1) 7 0) = true := by decide +kernel
theorem wk9_1_1_0_2_1_1_1 : wk 9 2 8 7 (aw (aw (aw (aw (aw (aw (aw c0 1 1) 2 1) 3 0) 4 2) 5 1) 6 1) 7 1) = true := by decide +kernel
theorem wk9_1_1_0_2_1_1 : wk 9 3 7 6 (aw (aw (aw (aw (aw (aw c0 1 1) 2 1) 3 0) 4 2) 5 1) 6 1) = true := wk_c (fun v hv => by
  rcases (by omega : v = 0 ∨ v = 1) with rfl | rfl
  · exact wk9_1_1_0_2_1_1_0
  · exact wk9_1_1_0_2_1_1_1)
theorem wk9_1_1_0_2_1 : wk 9 4 6 5 (aw (aw (aw (aw (aw c0 1 1) 2 1) 3 0) 4 2) 5 1) = true := wk_c (fun v hv => by
  rcases (by omega : v = 0 ∨ v = 1) with rfl | rfl
  · exact wk9_1_1_0_2_1_0
  · exact wk9_1_1_0_2_1_1)
theorem wk9_1_1_0_2 : wk 9 5 5 4 (aw (aw (aw (aw c0 1 1) 2 1) 3 0) 4 2) = true := wk_c (fun v hv => by
  rcases (by omega : v = 0 ∨ v = 1) with rfl | rfl
  · exact wk9_1_1_0_2_0
  · exact wk9_1_1_0_2_1)
theorem wk9_1_1_0 : wk 9 6 4 2 (aw (aw (aw c0 1 1) 2 1) 3 0) = true := wk_c (fun v hv => by
  rcases (by omega : v = 0 ∨ v = 1 ∨ v = 2) with rfl | rfl | rfl
  · exact wk9_1_1_0_0
  · exact wk9_1_1_0_1
  · exact wk9_1_1_0_2)
theorem wk9_1_1_1_0_0_0_0 : wk 9 2 8 3 (aw (aw (aw (aw (aw (aw (aw c0 1 1) 2 1) 3 1) 4 0) 5 0) 6 0) 7 0) = true := by decide +kernel
theorem wk9_1_1_1_0_0_0_1 : wk 9 2 8 4 (aw (aw (aw (aw (aw (aw (aw c0 1 1) 2 1) 3 1) 4 0) 5 0) 6 0) 7 1) = true := by decide +kernel
theorem wk9_1_1_1_0_0_0_2 : wk 9 2 8 5 (aw (aw (aw (aw (aw (aw (aw c0 1 1) 2 1) 3 1) 4 0) 5 0) 6 0) 7 2) = true := by decide +kernel
theorem wk9_1_1_1_0_0_0_3 : wk 9 2 8 6 (aw (aw (aw (aw (aw (aw (aw c0 1 1) 2 1) 3 1) 4 0) 5 0) 6 0) 7 3) = true := by decide +kernel
theorem wk9_1_1_1_0_0_0_4 : wk 9 2 8 7 (aw (aw (aw (aw (aw (aw (aw c0 1 1) 2 1) 3 1) 4 0) 5 0) 6 0) 7 4) = true := by decide +kernel
theorem wk9_1_1_1_0_0_0 : wk 9 3 7 3 (aw (aw (aw (aw (aw (aw c0 1 1) 2 1) 3 1) 4 0) 5 0) 6 0) = true := wk_c (fun v hv => by
  rcases (by omega : v = 0 ∨ v = 1 ∨ v = 2 ∨ v = 3 ∨ v = 4) with rfl | rfl | rfl | rfl | rfl
  · exact wk9_1_1_1_0_0_0_0
  · exact wk9_1_1_1_0_0_0_1
  · exact wk9_1_1_1_0_0_0_2
  · exact wk9_1_1_1_0_0_0_3
  · exact wk9_1_1_1_0_0_0_4)
theorem wk9_1_1_1_0_0_1_0 : wk 9 2 8 4 (aw (aw (aw (aw (aw (aw (aw c0 1 1) 2 1) 3 1) 4 0) 5 0) 6 1) 7 0) = true := by decide +kernel
theorem wk9_1_1_1_0_0_1_1 : wk 9 2 8 5 (aw (aw (aw (aw (aw (aw (aw c0 1 1) 2 1) 3 1) 4 0) 5 0) 6 1) 7 1) = true := by decide +kernel
theorem wk9_1_1_1_0_0_1_2 : wk 9 2 8 6 (aw (aw (aw (aw (aw (aw (aw c0 1 1) 2 1) 3 1) 4 0) 5 0) 6 1) 7 2) = true := by decide +kernel
theorem wk9_1_1_1_0_0_1_3 : wk 9 2 8 7 (aw (aw (aw (aw (aw (aw (aw c0 1 1) 2 1) 3 1) 4 0) 5 0) 6 1) 7 3) = true := by decide +kernel
theorem wk9_1_1_1_0_0_1 : wk 9 3 7 4 (aw (aw (aw (aw (aw (aw c0 1 1) 2 1) 3 1) 4 0) 5 0) 6 1) = true := wk_c (fun v hv => by
  rcases (by omega : v = 0 ∨ v = 1 ∨ v = 2 ∨ v = 3) with rfl | rfl | rfl | rfl
  · exact wk9_1_1_1_0_0_1_0
  · exact wk9_1_1_1_0_0_1_1
  · exact wk9_1_1_1_0_0_1_2
  · exact wk9_1_1_1_0_0_1_3)
theorem wk9_1_1_1_0_0_2_0 : wk 9 2 8 5 (aw (aw (aw (aw (aw (aw (aw c0 1 1) 2 1) 3 1) 4 0) 5 0) 6 2) 7 0) = true := by decide +kernel
theorem wk9_1_1_1_0_0_2_1 : wk 9 2 8 6 (aw (aw (aw (aw (aw (aw (aw c0 1 1) 2 1) 3 1) 4 0) 5 0) 6 2) 7 1) = true := by decide +kernel
theorem wk9_1_1_1_0_0_2_2 : wk 9 2 8 7 (aw (aw (aw (aw (aw (aw (aw c0 1 1) 2 1) 3 1) 4 0) 5 0) 6 2) 7 2) = true := by decide +kernel
theorem wk9_1_1_1_0_0_2 : wk 9 3 7 5 (aw (aw (aw (aw (aw (aw c0 1 1) 2 1) 3 1) 4 0) 5 0) 6 2) = true := wk_c (fun v hv => by
  rcases (by omega : v = 0 ∨ v = 1 ∨ v = 2) with rfl | rfl | rfl
  · exact wk9_1_1_1_0_0_2_0
  · exact wk9_1_1_1_0_0_2_1
  · exact wk9_1_1_1_0_0_2_2)
theorem wk9_1_1_1_0_0_3_0 : wk 9 2 8 6 (aw (aw (aw (aw (aw (aw (aw c0 1 1) 2 1) 3 1) 4 0) 5 0) 6 3) 7 0) = true := by decide +kernel
theorem wk9_1_1_1_0_0_3_1 : wk 9 2 8 7 (aw (aw (aw (aw (aw (aw (aw c0 1 1) 2 1) 3 1) 4 0) 5 0) 6 3) 7 1) = true := by decide +kernel
theorem wk9_1_1_1_0_0_3 : wk 9 3 7 6 (aw (aw (aw (aw (aw (aw c0 1 1) 2 1) 3 1) 4 0) 5 0) 6 3) = true := wk_c (fun v hv => by
  rcases (by omega : v = 0 ∨ v = 1) with rfl | rfl
  · exact wk9_1_1_1_0_0_3_0
  · exact wk9_1_1_1_0_0_3_1)
theorem wk9_1_1_1_0_0 : wk 9 4 6 3 (aw (aw (aw (aw (aw c0 1 1) 2 1) 3 1) 4 0) 5 0) = true := wk_c (fun v hv => by
  rcases (by omega : v = 0 ∨ v = 1 ∨ v = 2 ∨ v = 3) with rfl | rfl | rfl | rfl
  · exact wk9_1_1_1_0_0_0
  · exact wk9_1_1_1_0_0_1
  · exact wk9_1_1_1_0_0_2
  · exact wk9_1_1_1_0_0_3)
theorem wk9_1_1_1_0_1_0_0 : wk 9 2 8 4 (aw (aw (aw (aw (aw (aw (aw c0 1 1) 2 1) 3 1) 4 0) 5 1) 6 0) 7 0) = true := by decide +kernel
theorem wk9_1_1_1_0_1_0_1 : wk 9 2 8 5 (aw (aw (aw (aw (aw (aw (aw c0 1 1) 2 1) 3 1) 4 0) 5 1) 6 0) 7 1) = true := by decide +kernel
theorem wk9_1_1_1_0_1_0_2 : wk 9 2 8 6 (aw (aw (aw (aw (aw (aw (aw c0 1 1) 2 1) 3 1) 4 0) 5 1) 6 0) 7 2) = true := by decide +kernel
theorem wk9_1_1_1_0_1_0_3 : wk 9 2 8 7 (aw (aw (aw (aw (aw (aw (aw c0 1 1) 2 1) 3 1) 4 0) 5 1) 6 0) 7 3) = true := by decide +kernel
theorem wk9_1_1_1_0_1_0 : wk 9 3 7 4 (aw (aw (aw (aw (aw (aw c0 1 1) 2 1) 3 1) 4 0) 5 1) 6 0) = true := wk_c (fun v hv => by
  rcases (by omega : v = 0 ∨ v = 1 ∨ v = 2 ∨ v = 3) with rfl | rfl | rfl | rfl
  · exact wk9_1_1_1_0_1_0_0
  · exact wk9_1_1_1_0_1_0_1
  · exact wk9_1_1_1_0_1_0_2
  · exact wk9_1_1_1_0_1_0_3)
theorem wk9_1_1_1_0_1_1_0 : wk 9 2 8 5 (aw (aw (aw (aw (aw (aw (aw c0 1 1) 2 1) 3 1) 4 0) 5 1) 6 1) 7 0) = true := by decide +kernel
theorem wk9_1_1_1_0_1_1_1 : wk 9 2 8 6 (aw (aw (aw (aw (aw (aw (aw c0 1 1) 2 1) 3 1) 4 0) 5 1) 6 1) 7 1) = true := by decide +kernel
theorem wk9_1_1_1_0_1_1_2 : wk 9 2 8 7 (aw (aw (aw (aw (aw (aw (aw c0 1 1) 2 1) 3 1) 4 0) 5 1) 6 1) 7 2) = true := by decide +kernel
theorem wk9_1_1_1_0_1_1 : wk 9 3 7 5 (aw (aw (aw (aw (aw (aw c0 1 1) 2 1) 3 1) 4 0) 5 1) 6 1) = true := wk_c (fun v hv => by
  rcases (by omega : v = 0 ∨ v = 1 ∨ v = 2) with rfl | rfl | rfl
  · exact wk9_1_1_1_0_1_1_0
  · exact wk9_1_1_1_0_1_1_1
  · exact wk9_1_1_1_0_1_1_2)
theorem wk9_1_1_1_0_1_2_0 : wk 9 2 8 6 (aw (aw (aw (aw (aw (aw (aw c0 1 1) 2 1) 3 1) 4 0) 5 1) 6 2) 7 0) = true := by decide +kernel
theorem wk9_1_1_1_0_1_2_1 : wk 9 2 8 7 (aw (aw (aw (aw (aw (aw (aw c0 1 1) 2 1) 3 1) 4 0) 5 1) 6 2) 7 1) = true := by decide +kernel
theorem wk9_1_1_1_0_1_2 : wk 9 3 7 6 (aw (aw (aw (aw (aw (aw c0 1 1) 2 1) 3 1) 4 0) 5 1) 6 2) = true := wk_c (fun v hv => by
  rcases (by omega : v = 0 ∨ v = 1) with rfl | rfl
  · exact wk9_1_1_1_0_1_2_0
  · exact wk9_1_1_1_0_1_2_1)
theorem wk9_1_1_1_0_1 : wk 9 4 6 4 (aw (aw (aw (aw (aw c0 1 1) 2 1) 3 1) 4 0) 5 1) = true := wk_c (fun v hv => by
  rcases (by omega : v = 0 ∨ v = 1 ∨ v = 2) with rfl | rfl | rfl
  · exact wk9_1_1_1_0_1_0
  · exact wk9_1_1_1_0_1_1
  · exact wk9_1_1_1_0_1_2)
theorem wk9_1_1_1_0_2_0_0 : wk 9 2 8 5 (aw (aw (aw (aw (aw (aw (aw c0 1 1) 2 1) 3 1) 4 0) 5 2) 6 0) 7 0) = true := by decide +kernel
theorem wk9_1_1_1_0_2_0_1 : wk 9 2 8 6 (aw (aw (aw (aw (aw (aw (aw c0 1 1) 2 1) 3 1) 4 0) 5 2) 6 0) 7 1) = true := by decide +kernel
theorem wk9_1_1_1_0_2_0_2 : wk 9 2 8 7 (aw (aw (aw (aw (aw (aw (aw c0 1 1) 2 1) 3 1) 4 0) 5 2) 6 0) 7 2) = true := by decide +kernel
theorem wk9_1_1_1_0_2_0 : wk 9 3 7 5 (aw (aw (aw (aw (aw (aw c0 1 1) 2 1) 3 1) 4 0) 5 2) 6 0) = true := wk_c (fun v hv => by
  rcases (by omega : v = 0 ∨ v = 1 ∨ v = 2) with rfl | rfl | rfl
  · exact wk9_1_1_1_0_2_0_0
  · exact wk9_1_1_1_0_2_0_1
  · exact wk9_1_1_1_0_2_0_2)
theorem wk9_1_1_1_0_2_1_0 : wk 9 2 8 6 (aw (aw (aw (aw (aw (aw (aw c0 1 1) 2 1) 3 1) 4 0) 5 2) 6 1) 7 0) = true := by decide +kernel
theorem wk9_1_1_1_0_2_1_1 : wk 9 2 8 7 (aw (aw (aw (aw (aw (aw (aw c0 1 1) 2 1) 3 1) 4 0) 5 2) 6 1) 7 1) = true := by decide +kernel
theorem wk9_1_1_1_0_2_1 : wk 9 3 7 6 (aw (aw (aw (aw (aw (aw c0 1 1) 2 1) 3 1) 4 0) 5 2) 6 1) = true := wk_c (fun v hv => by
  rcases (by omega : v = 0 ∨ v = 1) with rfl | rfl
  · exact wk9_1_1_1_0_2_1_0
  · exact wk9_1_1_1_0_2_1_1)
theorem wk9_1_1_1_0_2 : wk 9 4 6 5 (aw (aw (aw (aw (aw c0 1 1) 2 1) 3 1) 4 0) 5 2) = true := wk_c (fun v hv => by
  rcases (by omega : v = 0 ∨ v = 1) with rfl | rfl
  · exact wk9_1_1_1_0_2_0
  · exact wk9_1_1_1_0_2_1)
theorem wk9_1_1_1_0 : wk 9 5 5 3 (aw (aw (aw (aw c0 1 1) 2 1) 3 1) 4 0) = true := wk_c (fun v hv => by
  rcases (by omega : v = 0 ∨ v = 1 ∨ v = 2) with rfl | rfl | rfl
  · exact wk9_1_1_1_0_0
  · exact wk9_1_1_1_0_1
  · exact wk9_1_1_1_0_2)
theorem wk9_1_1_1_1_0_0_0 : wk 9 2 8 4 (aw (aw (aw (aw (aw (aw (aw c0 1 1) 2 1) 3 1) 4 1) 5 0) 6 0) 7 0) = true := by decide +kernel
theorem wk9_1_1_1_1_0_0_1 : wk 9 2 8 5 (aw (aw (aw (aw (aw (aw (aw c0 1 1) 2 1) 3 1) 4 1) 5 0) 6 0) 7 1) = true := by decide +kernel
theorem wk9_1_1_1_1_0_0_2 : wk 9 2 8 6 (aw (aw (aw (aw (aw (aw (aw c0 1 1) 2 1) 3 1) 4 1) 5 0) 6 0) 7 2) = true := by decide +kernel
theorem wk9_1_1_1_1_0_0_3 : wk 9 2 8 7 (aw (aw (aw (aw (aw (aw (aw c0 1 1) 2 1) 3 1) 4 1) 5 0) 6 0) 7 3) = true := by decide +kernel
theorem wk9_1_1_1_1_0_0 : wk 9 3 7 4 (aw (aw (aw (aw (aw (aw c0 1 1) 2 1) 3 1) 4 1) 5 0) 6 0) = true := wk_c (fun v hv => by
  rcases (by omega : v = 0 ∨ v = 1 ∨ v = 2 ∨ v = 3) with rfl | rfl | rfl | rfl
  · exact wk9_1_1_1_1_0_0_0
  · exact wk9_1_1_1_1_0_0_1
  · exact wk9_1_1_1_1_0_0_2
  · exact wk9_1_1_1_1_0_0_3)
theorem wk9_1_1_1_1_0_1_0 : wk 9 2 8 5 (aw (aw (aw (aw (aw (aw (aw c0 1 1) 2 1) 3 1) 4 1) 5 0) 6 1) 7 0) = true := by decide +kernel
theorem wk9_1_1_1_1_0_1_1 : wk 9 2 8 6 (aw (aw (aw (aw (aw (aw (aw c0 1 1) 2 1) 3 1) 4 1) 5 0) 6 1) 7 1) = true := by decide +kernel
theorem wk9_1_1_1_1_0_1_2 : wk 9 2 8 7 (aw (aw (aw (aw (aw (aw (aw c0 1 1) 2 1) 3 1) 4 1) 5 0) 6 1) 7 2) = true := by decide +kernel
theorem wk9_1_1_1_1_0_1 : wk 9 3 7 5 (aw (aw (aw (aw (aw (aw c0 1 1) 2 1) 3 1) 4 1) 5 0) 6 1) = true := wk_c (fun v hv => by
  rcases (by omega : v = 0 ∨ v = 1 ∨ v = 2) with rfl | rfl | rfl
  · exact wk9_1_1_1_1_0_1_0
  · exact wk9_1_1_1_1_0_1_1
  · exact wk9_1_1_1_1_0_1_2)
theorem wk9_1_1_1_1_0_2_0 : wk 9 2 8 6 (aw (aw (aw (aw (aw (aw (aw c0 1 1) 2 1) 3 1) 4 1) 5 0) 6 2) 7 0) = true := by decide +kernel
theorem wk9_1_1_1_1_0_2_1 : wk 9 2 8 7 (aw (aw (aw (aw (aw (aw (aw c0 1 1) 2 1) 3 1) 4 1) 5 0) 6 2) 7 1) = true := by decide +kernel
theorem wk9_1_1_1_1_0_2 : wk 9 3 7 6 (aw (aw (aw (aw (aw (aw c0 1 1) 2 1) 3 1) 4 1) 5 0) 6 2) = true := wk_c (fun v hv => by
  rcases (by omega : v = 0 ∨ v = 1) with rfl | rfl
  · exact wk9_1_1_1_1_0_2_0
  · exact wk9_1_1_1_1_0_2_1)
theorem wk9_1_1_1_1_0 : wk 9 4 6 4 (aw (aw (aw (aw (aw c0 1 1) 2 1) 3 1) 4 1) 5 0) = true := wk_c (fun v hv => by
  rcases (by omega : v = 0 ∨ v = 1 ∨ v = 2) with rfl | rfl | rfl
  · exact wk9_1_1_1_1_0_0
  · exact wk9_1_1_1_1_0_1
  · exact wk9_1_1_1_1_0_2)
theorem wk9_1_1_1_1_1_0_0 : wk 9 2 8 5 (aw (aw (aw (aw (aw (aw (aw c0 1 1) 2 1) 3 1) 4 1) 5 1) 6 0) 7 0) = true := by decide +kernel
theorem wk9_1_1_1_1_1_0_1 : wk 9 2 8 6 (aw (aw (aw (aw (aw (aw (aw c0 1 1) 2 1) 3 1) 4 1) 5 1) 6 0) 7 1) = true := by decide +kernel
theorem wk9_1_1_1_1_1_0_2 : wk 9 2 8 7 (aw (aw (aw (aw (aw (aw (aw c0 1 1) 2 1) 3 1) 4 1) 5 1) 6 0) 7 2) = true := by decide +kernel
theorem wk9_1_1_1_1_1_0 : wk 9 3 7 5 (aw (aw (aw (aw (aw (aw c0 1 1) 2 1) 3 1) 4 1) 5 1) 6 0) = true := wk_c (fun v hv => by
  rcases (by omega : v = 0 ∨ v = 1 ∨ v = 2) with rfl | rfl | rfl
  · exact wk9_1_1_1_1_1_0_0
  · exact wk9_1_1_1_1_1_0_1
  · exact wk9_1_1_1_1_1_0_2)
theorem wk9_1_1_1_1_1_1_0 : wk 9 2 8 6 (aw (aw (aw (aw (aw (aw (aw c0 1 1) 2 1) 3 1) 4 1) 5 1) 6 1) 7 0) = true := by decide +kernel
theorem wk9_1_1_1_1_1_1_1 : wk 9 2 8 7 (aw (aw (aw (aw (aw (aw (aw c0 1 1) 2 1) 3 1) 4 1) 5 1) 6 1) 7 1) = true := by decide +kernel
theorem wk9_1_1_1_1_1_1 : wk 9 3 7 6 (aw (aw (aw (aw (aw (aw c0 1 1) 2 1) 3 1) 4 1) 5 1) 6 1) = true := wk_c (fun v hv => by
  rcases (by omega : v = 0 ∨ v = 1) with rfl | rfl
  · exact wk9_1_1_1_1_1_1_0
  · exact wk9_1_1_1_1_1_1_1)
theorem wk9_1_1_1_1_1 : wk 9 4 6 5 (aw (aw (aw (aw (aw c0 1 1) 2 1) 3 1) 4 1) 5 1) = true := wk_c (fun v hv => by
  rcases (by omega : v = 0 ∨ v = 1) with rfl | rfl
  · exact wk9_1_1_1_1_1_0
  · exact wk9_1_1_1_1_1_1)
theorem wk9_1_1_1_1 : wk 9 5 5 4 (aw (aw (aw (aw c0 1 1) 2 1) 3 1) 4 1) = true := wk_c (fun v hv => by
  rcases (by omega : v = 0 ∨ v = 1) with rfl | rfl
  · exact wk9_1_1_1_1_0
  · exact wk9_1_1_1_1_1)
theorem wk9_1_1_1 : wk 9 6 4 3 (aw (aw (aw c0 1 1) 2 1) 3 1) = true := wk_c (fun v hv => by
  rcases (by omega : v = 0 ∨ v = 1) with rfl | rfl
  · exact wk9_1_1_1_0
  · exact wk9_1_1_1_1)
theorem wk9_1_1 : wk 9 7 3 2 (aw (aw c0 1 1) 2 1) = true := wk_c (fun v hv => by
  rcases (by omega : v = 0 ∨ v = 1) with rfl | rfl
  · exact wk9_1_1_0
  · exact wk9_1_1_1)
theorem wk9_1 : wk 9 8 2 1 (aw c0 1 1) = true := wk_c (fun v hv => by
  rcases (by omega : v = 0 ∨ v = 1) with rfl | rfl
  · exact wk9_1_0
  · exact wk9_1_1)
theorem wk9 : wk 9 9 1 0 (c0) = true := wk_c (fun v hv => by
  rcases (by omega : v = 0 ∨ v = 1) with rfl | rfl
  · exact wk9_0
  · exact wk9_1)
theorem allC : AllC := fun n h1 h2 => by
  rcases (by omega : n = 1 ∨ n = 2 ∨ n = 3 ∨ n = 4 ∨ n = 5 ∨ n = 6 ∨ n = 7 ∨ n = 8 ∨ n = 9) with rfl | rfl | rfl | rfl | rfl | rfl | rfl | rfl | rfl
  · exact wk1
  · exact wk2
  · exact wk3
  · exact wk4
  · exact wk5
  · exact wk6
  · exact wk7
  · exact wk8
  · exact wk9
