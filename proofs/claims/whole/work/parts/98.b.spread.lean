/-! the reference's spread and flips -/
theorem aw_same {O i v : Nat} (hv : v < 4294967296) (h : ag O i = v + 1) : aw O i v = O := by
  have h2 : (O >>> (33 * i)) % 2 ^ 33 = v + 1 := by
    unfold ag at h
    rw [fz_eq, fz_eq] at h
    exact h
  have h3 : Nat.succ (Nat.mod v 4294967296) = v + 1 := congrArg Nat.succ (Nat.mod_eq_of_lt hv)
  unfold aw
  rw [fz_eq, h3, au_eq, h2, Nat.mod_eq_of_lt (show v + 1 < 2 ^ 33 from Nat.lt_of_lt_of_le (Nat.succ_lt_succ hv) (by decide)), Nat.xor_self, Nat.zero_shiftLeft, Nat.xor_zero]
theorem blt_f {a b : Nat} (h : b ≤ a) : Nat.blt a b = false := by
  cases hb : Nat.blt a b with
  | false => rfl
  | true => exact absurd (Nat.blt_eq.mp hb) (by omega)
theorem jC_s (a : Nat) : jC a a = 0 := by
  unfold jC
  rw [jLt_eq, blt_f (Nat.le_refl _)]
  rfl
theorem jCq_t {α : Type} {a : Nat} {X Y : α} : (bif iEq (jC a a) 0 then X else Y) = X := by
  rw [jC_s]
  exact iEq_t
theorem jCq_f {α : Type} {a b : Nat} {X Y : α} (ha : a < 9223372036854775808) (hb : b < 9223372036854775808) (h : a ≠ b) : (bif iEq (jC a b) 0 then X else Y) = Y := by
  have hj : jC a b = 1 ∨ jC a b = 4294967295 := by
    unfold jC
    rw [jLt_eq, jLt_eq, Nat.mod_eq_of_lt (by omega), Nat.mod_eq_of_lt (by omega)]
    by_cases h2 : b < a
    · exact Or.inl (bl_t (by omega))
    · refine Or.inr ?_
      rw [bl_f (by omega)]
      exact bl_t (by omega)
  rcases hj with hj | hj
  · rw [hj]
    exact iEq_f (by omega) (by omega) (by omega)
  · rw [hj]
    exact iEq_f (by omega) (by omega) (by omega)
/-- a neighbour that is not yet known gets the next number -/
noncomputable def updN (F f m : Nat) : Nat := bif Nat.beq (ag F m) 4294967296 then aw F m (ag F f) else F
theorem updN_t {F f m : Nat} (h : ag F m = 4294967296) : updN F f m = aw F m (ag F f) := by
  unfold updN
  rw [h]
  rfl
theorem updN_f {F f m : Nat} (h : ag F m ≠ 4294967296) : updN F f m = F := by
  unfold updN
  have hb : Nat.beq (ag F m) 4294967296 = false := by
    cases hc : Nat.beq (ag F m) 4294967296 with
    | false => rfl
    | true => exact absurd (Nat.eq_of_beq_eq_true hc) h
  rw [hb]
  rfl
def okF (W b F : Nat) : Prop := ∀ x, x < W → ag F x = 4294967296 ∨ ∃ v, v ≤ b ∧ ag F x = v + 1
theorem okF_up {W b F f m v : Nat} (hb : b < 1000) (h : okF W b F) (hv : v < b) (hf : ag F f = v + 1) : okF W b (updN F f m) ∧ ag (updN F f m) f = v + 1 ∧ ∀ x, ag F x ≠ 4294967296 → ag (updN F f m) x = ag F x := by
  by_cases hm : ag F m = 4294967296
  · rw [updN_t hm, hf]
    refine ⟨fun x hx => ?_, ?_, fun x hx => ?_⟩
    · rw [ag_aw]
      by_cases he : m = x
      · rw [if_pos he, Nat.mod_eq_of_lt (by omega)]
        exact Or.inr ⟨v + 1, by omega, rfl⟩
      · rw [if_neg he]
        exact h x hx
    · rw [ag_aw, if_neg (fun e => by rw [e, hf] at hm; omega)]
      exact hf
    · rw [ag_aw, if_neg (fun e => hx (by rw [← e]; exact hm))]
  · rw [updN_f hm]
    exact ⟨h, hf, fun _ _ => rfl⟩
theorem sp_in {x0 x1 n S z W f i j o m b v : Nat} (hS : ∀ x, x < W → ∃ s, s < 9223372036854775808 ∧ agL S x = s + 1) (hinj : ∀ x, x < W → agL S x = o + 1 → x = m) (hm : m < W) (ho : agL S m = o + 1) (ho2 : o < 9223372036854775808) (hW : W ≤ 132) (hfW : f < W) (hb : b < 1000) (hv : v < b) : ∀ r fuel l7 F, l7 + r = W → r < fuel → okF W b F → ag F f = v + 1 → fr_MO_spread x0 x1 n S z fuel 2 f W i j o l7 F = fr_MO_spread x0 x1 n S z (fuel - r - 1) 1 f W i (iA j 1) (if l7 ≤ m then updN F f m else F) 0 0 := by
  intro r
  induction r with
  | zero =>
    intro fuel l7 F hl hf hF hv1
    obtain ⟨k, rfl⟩ : ∃ k, fuel = k + 1 := ⟨fuel - 1, by omega⟩
    rw [frs_MO_spread_70]
    unfold b_MO_spread_70 j_MO_spread_130
    rw [iLt_f (by omega) (by omega) (by omega), fz_eq, if_neg (by omega)]
    rfl
  | succ r ih =>
    intro fuel l7 F hl hf hF hv1
    obtain ⟨k, rfl⟩ : ∃ k, fuel = k + 1 := ⟨fuel - 1, by omega⟩
    obtain ⟨s, hs, es⟩ := hS l7 (by omega)
    have keep : fr_MO_spread x0 x1 n S z k 2 f W i j o (l7 + 1) F = fr_MO_spread x0 x1 n S z (k - r - 1) 1 f W i (iA j 1) (if l7 + 1 ≤ m then updN F f m else F) 0 0 := ih k (l7 + 1) F (by omega) (by omega) hF hv1
    have j116 : j_MO_spread_116 (fr_MO_spread x0 x1 n S z k) x0 x1 n S z f W i j o l7 l7 F = fr_MO_spread x0 x1 n S z k 2 f W i j o (l7 + 1) F := by
      unfold j_MO_spread_116 j_MO_spread_123
      rcases hF l7 (by omega) with h | ⟨u, hu, h⟩
      · rw [rd_k (v := 4294967295) h (by omega), bl_t (by omega), fz_eq, fz_eq, iA_n (by omega), aw_same (by omega) h]
      · rw [rd_k h (by omega), bl_t (by omega), fz_eq, fz_eq, iA_n (by omega), aw_same (by omega) h]
    rw [frs_MO_spread_70, show k + 1 - (r + 1) - 1 = k - r - 1 by omega]
    unfold b_MO_spread_70
    rw [iLt_t (by omega) (by omega) (by omega), rdL_k es (by omega)]
    by_cases he : l7 = m
    · subst he
      have hso : s = o := by omega
      subst hso
      rw [jCq_t, if_pos (Nat.le_refl _)]
      rw [if_neg (by omega)] at keep
      rcases hF l7 (by omega) with h | ⟨u, hu, h⟩
      · obtain ⟨g1, g2, -⟩ := okF_up (m := l7) hb hF hv hv1
        rw [rd_k (v := 4294967295) h (by omega), iLt_big (by omega) (by omega) 0 (by omega), rd_k hv1 (by omega), fz_eq, iA_n (by omega)]
        unfold j_MO_spread_123
        rw [bl_t (by omega), fz_eq, fz_eq, iA_n (by omega)]
        rw [updN_t h, hv1] at g1 g2 ⊢
        have g := ih k (l7 + 1) (aw F l7 (v + 1)) (by omega) (by omega) g1 g2
        rw [if_neg (by omega)] at g
        exact g
      · rw [rd_k h (by omega), iLt_f (by omega) (by omega) (by omega), j116, keep, updN_f (by omega)]
    · have hne : s ≠ o := fun q => he (hinj l7 (by omega) (by rw [es, q]))
      rw [jCq_f hs ho2 hne, j116, keep]
      by_cases h : l7 ≤ m
      · rw [if_pos h, if_pos (by omega)]
      · rw [if_neg h, if_neg (by omega)]
/-- the sets one flip away, in their order -/
noncomputable def spl (n S f k : Nat) : Nat → Nat → Nat → Option (List Nat) := Nat.rec (motive := fun _ => Nat → Nat → Nat → Option (List Nat)) (fun _ _ _ => none) (fun _ ih hh i j => (Nat.rec (motive := fun _ => Option (List Nat)) (bif iLt n i then some [] else fz (iA i 2) (fun u => ih 1 i u)) (fun _ _ => (bif iLt (iA n 1) j then fz (iA i 1) (fun u => ih 0 u 0) else rdL S 132 f (fun v => bif Nat.blt v 9223372036854775808 then (bif Nat.blt (iA (iM 8 i) j) 64 then (bif iEq (jC (jAnd (jShr v (iA (iM 8 i) j)) 1) 1) 0 then Option.bind (f_MO_flipped v i j (iA n 1)) (fun o => Option.bind (fz (iA j 1) (fun u => ih 1 i u)) (fun l => some (o :: l))) else fz (iA j 1) (fun u => ih 1 i u)) else none) else none))) hh)) k
theorem spl_0 (n S f k i j : Nat) : spl n S f (k + 1) 0 i j = (bif iLt n i then some [] else fz (iA i 2) (fun u => spl n S f k 1 i u)) := rfl
theorem spl_1 (n S f k i j : Nat) : spl n S f (k + 1) 1 i j = (bif iLt (iA n 1) j then fz (iA i 1) (fun u => spl n S f k 0 u 0) else rdL S 132 f (fun v => bif Nat.blt v 9223372036854775808 then (bif Nat.blt (iA (iM 8 i) j) 64 then (bif iEq (jC (jAnd (jShr v (iA (iM 8 i) j)) 1) 1) 0 then Option.bind (f_MO_flipped v i j (iA n 1)) (fun o => Option.bind (fz (iA j 1) (fun u => spl n S f k 1 i u)) (fun l => some (o :: l))) else fz (iA j 1) (fun u => spl n S f k 1 i u)) else none) else none)) := rfl
def okL (S W : Nat) : List Nat → List Nat → Prop
  | [], [] => True
  | o :: l, m :: ms => (m < W ∧ agL S m = o + 1 ∧ o < 9223372036854775808) ∧ okL S W l ms
  | _, _ => False
noncomputable def upL (f : Nat) : List Nat → Nat → Nat := fun l => List.rec (motive := fun _ => Nat → Nat) (fun F => F) (fun m _ ih F => fz m (fun m => fz (updN F f m) (fun F => ih F))) l
theorem upL_n (f F : Nat) : upL f [] F = F := rfl
theorem upL_c (f m : Nat) (ms : List Nat) (F : Nat) : upL f (m :: ms) F = upL f ms (updN F f m) := by
  show fz m (fun m => fz (updN F f m) (fun F => upL f ms F)) = _
  rw [fz_eq, fz_eq]
theorem okF_upL {W b f v : Nat} (hb : b < 1000) (hv : v < b) : ∀ (ms : List Nat) (F : Nat), okF W b F → ag F f = v + 1 → okF W b (upL f ms F) ∧ ag (upL f ms F) f = v + 1 ∧ ∀ x, ag F x ≠ 4294967296 → ag (upL f ms F) x = ag F x := by
  intro ms
  induction ms with
  | nil => intro F h1 h2; exact ⟨h1, h2, fun _ _ => rfl⟩
  | cons m ms ih =>
    intro F h1 h2
    obtain ⟨g1, g2, g3⟩ := okF_up (m := m) hb h1 hv h2
    obtain ⟨i1, i2, i3⟩ := ih _ g1 g2
    rw [upL_c]
    refine ⟨i1, i2, fun x hx => ?_⟩
    rw [i3 x (by rw [g3 x hx]; exact hx), g3 x hx]
theorem sp_rel {x0 x1 n S z W f b v : Nat} (hS : ∀ x, x < W → ∃ s, s < 9223372036854775808 ∧ agL S x = s + 1) (hinj : ∀ x y, x < W → y < W → agL S x = agL S y → x = y) (hW : W ≤ 132) (hfW : f < W) (hb : b < 1000) (hv : v < b) : ∀ k fuel i j l ms F, k * 140 ≤ fuel → okL S W l ms → okF W b F → ag F f = v + 1 → (spl n S f k 0 i j = some l → fr_MO_spread x0 x1 n S z fuel 0 f W i F 0 0 0 = some (upL f ms F)) ∧ (spl n S f k 1 i j = some l → fr_MO_spread x0 x1 n S z fuel 1 f W i j F 0 0 = some (upL f ms F)) := by
  intro k
  induction k with
  | zero => intro fuel i j l ms F _ _ _ _; exact ⟨fun h => no_s h, fun h => no_s h⟩
  | succ k ih =>
    intro fuel i j l ms F hk hl hF hv1
    obtain ⟨m, rfl⟩ : ∃ m, fuel = m + 1 := ⟨fuel - 1, by omega⟩
    obtain ⟨s, hs, es⟩ := hS f hfW
    refine ⟨fun h => ?_, fun h => ?_⟩
    · rw [spl_0] at h
      rw [frs_MO_spread_2]
      unfold b_MO_spread_2
      cases hc : iLt n i with
      | true =>
        rw [hc, bz_t] at h
        rw [bz_t]
        have := Option.some.inj h
        subst this
        cases ms with
        | nil => rfl
        | cons a as => exact hl.elim
      | false =>
        rw [hc, bz_f, fz_eq] at h
        rw [bz_f, fz_eq]
        exact (ih m i (iA i 2) l ms F (by omega) hl hF hv1).2 h
    · rw [spl_1] at h
      rw [frs_MO_spread_15]
      unfold b_MO_spread_15
      cases hc : iLt (iA n 1) j with
      | true =>
        rw [hc, bz_t, fz_eq] at h
        rw [bz_t, fz_eq]
        exact (ih m (iA i 1) 0 l ms F (by omega) hl hF hv1).1 h
      | false =>
        rw [hc, bz_f, rdL_k es (by omega), bl_t hs] at h
        rw [bz_f, rdL_k es (by omega), bl_t hs]
        cases hd : Nat.blt (iA (iM 8 i) j) 64 with
        | false =>
          rw [hd, bz_f] at h
          exact no_s h
        | true =>
          rw [hd, bz_t] at h
          rw [bz_t]
          cases he : iEq (jC (jAnd (jShr s (iA (iM 8 i) j)) 1) 1) 0 with
          | false =>
            rw [he, bz_f, fz_eq] at h
            rw [bz_f]
            unfold j_MO_spread_130
            rw [fz_eq]
            exact (ih m i (iA j 1) l ms F (by omega) hl hF hv1).2 h
          | true =>
            rw [he, bz_t] at h
            rw [bz_t, rdL_k es (by omega)]
            cases hf : f_MO_flipped s i j (iA n 1) with
            | none =>
              rw [hf] at h
              exact no_s h
            | some o =>
              rw [hf, ob_s, fz_eq] at h
              rw [ob_s]
              cases hg : spl n S f k 1 i (iA j 1) with
              | none =>
                rw [hg] at h
                exact no_s h
              | some l2 =>
                rw [hg, ob_s] at h
                have := Option.some.inj h
                subst this
                cases ms with
                | nil => exact hl.elim
                | cons a as =>
                  obtain ⟨⟨p1, p2, p3⟩, p4⟩ := hl
                  obtain ⟨g1, g2, -⟩ := okF_up (m := a) hb hF hv hv1
                  rw [sp_in hS (fun x hx q => hinj x a hx p1 (by rw [q, p2])) p1 p2 p3 hW hfW hb hv W m 0 F (by omega) (by omega) hF hv1, if_pos (Nat.zero_le _), upL_c]
                  exact (ih (m - W - 1) i (iA j 1) l2 as _ (by omega) p4 g1 g2).2 hg
/-! the neighbours out of the table of the flips; a level; the run -/
noncomputable def nbs (n x : Nat) : List Nat := Nat.rec (motive := fun _ => List Nat) [] (fun e l => Nat.div (kt n x (Nat.sub (Nat.sub n 2) e)) 256 :: l) (Nat.sub n 1)
noncomputable def mtB (S W : Nat) : List Nat → List Nat → Bool := fun l => List.rec (motive := fun _ => List Nat → Bool) (fun ms => List.rec (motive := fun _ => Bool) true (fun _ _ _ => false) ms) (fun o _ ih ms => List.rec (motive := fun _ => Bool) false (fun m ms2 _ => fz m (fun m => bnd (Nat.blt m W) (bnd (Nat.beq (agL S m) (Nat.succ o)) (bnd (Nat.blt o 9223372036854775808) (ih ms2))))) ms) l
theorem mtB_t {S W : Nat} : ∀ l ms, mtB S W l ms = true → okL S W l ms := by
  intro l
  induction l with
  | nil =>
    intro ms h
    cases ms with
    | nil => trivial
    | cons a as => cases h
  | cons o l ih =>
    intro ms h
    cases ms with
    | nil => cases h
    | cons a as =>
      have h2 : fz a (fun m => bnd (Nat.blt m W) (bnd (Nat.beq (agL S m) (Nat.succ o)) (bnd (Nat.blt o 9223372036854775808) (mtB S W l as)))) = true := h
      rw [fz_eq] at h2
      obtain ⟨g1, h2⟩ := bnd_t h2
      obtain ⟨g2, h2⟩ := bnd_t h2
      obtain ⟨g3, h2⟩ := bnd_t h2
      exact ⟨⟨Nat.blt_eq.mp g1, Nat.eq_of_beq_eq_true g2, Nat.blt_eq.mp g3⟩, ih as h2⟩
noncomputable def lvN (n d r : Nat) : Nat → Nat → Nat := Nat.rec (motive := fun _ => Nat → Nat → Nat) (fun _ F => F) (fun _ ih x F => bif Nat.beq (ag F x) (Nat.succ d) then fz (upL x (nbs n x) F) (fun F2 => ih (Nat.succ x) F2) else ih (Nat.succ x) F) r
theorem lvN_t {n d r x F : Nat} (h : ag F x = d + 1) : lvN n d (r + 1) x F = lvN n d r (x + 1) (upL x (nbs n x) F) := by
  show (bif Nat.beq (ag F x) (Nat.succ d) then fz (upL x (nbs n x) F) (fun F2 => lvN n d r (Nat.succ x) F2) else lvN n d r (Nat.succ x) F) = _
  rw [h, show Nat.beq (d + 1) (Nat.succ d) = true from Nat.beq_refl _, bz_t, fz_eq]
theorem lvN_f {n d r x F : Nat} (h : ag F x ≠ d + 1) : lvN n d (r + 1) x F = lvN n d r (x + 1) F := by
  show (bif Nat.beq (ag F x) (Nat.succ d) then fz (upL x (nbs n x) F) (fun F2 => lvN n d r (Nat.succ x) F2) else lvN n d r (Nat.succ x) F) = _
  have hb : Nat.beq (ag F x) (Nat.succ d) = false := by
    cases hc : Nat.beq (ag F x) (Nat.succ d) with
    | false => rfl
    | true => exact absurd (Nat.eq_of_beq_eq_true hc) h
  rw [hb, bz_f]
/-- what is checked of the sets of a size: they are there, all different; the flips of each are its neighbours' -/
def SetsOk (n W S : Nat) : Prop := W ≤ 132 ∧ (∀ x, x < W → ∃ s, s < 9223372036854775808 ∧ agL S x = s + 1) ∧ (∀ x y, x < W → y < W → agL S x = agL S y → x = y) ∧ ∀ f, f < W → ∃ l, spl n S f 1000 0 0 0 = some l ∧ okL S W l (nbs n f)
theorem mo_spread {n W S F f b v : Nat} (h : SetsOk n W S) (hf : f < W) (hb : b < 1000) (hv : v < b) (hF : okF W b F) (hv1 : ag F f = v + 1) : f_MO_spread f W n S F = some (upL f (nbs n f) F) := by
  obtain ⟨h1, h2, h3, h4⟩ := h
  obtain ⟨l, e, hl⟩ := h4 f hf
  unfold f_MO_spread e_MO_spread
  exact (sp_rel h2 h3 h1 hf hb hv 1000 1000000 0 0 l (nbs n f) F (by omega) hl hF hv1).1 e
theorem lv_keep {n W d : Nat} (hd : d < 900) : ∀ r x F, x + r = W → okF W (d + 1) F → okF W (d + 1) (lvN n d r x F) ∧ ∀ y, ag F y ≠ 4294967296 → ag (lvN n d r x F) y = ag F y := by
  intro r
  induction r with
  | zero => intro x F _ h; exact ⟨h, fun _ _ => rfl⟩
  | succ r ih =>
    intro x F hx h
    by_cases hq : ag F x = d + 1
    · obtain ⟨g1, g2, g3⟩ := okF_upL (f := x) (v := d) (by omega) (by omega) (nbs n x) F h hq
      obtain ⟨i1, i2⟩ := ih (x + 1) _ (by omega) g1
      rw [lvN_t hq]
      refine ⟨i1, fun y hy => ?_⟩
      rw [i2 y (by rw [g3 y hy]; exact hy), g3 y hy]
    · rw [lvN_f hq]
      exact ih (x + 1) F (by omega) h
theorem lv_go {n W S d x : Nat} (h : SetsOk n W S) (hd : d < 900) {x0 c w z3 z4 z5 z6 z7 z8 z9 z10 z11 T a1 a2 a3 a4 a5 a6 : Nat} : ∀ r fuel l5 F, l5 + r = W → r < fuel → okF W (d + 1) F → fr_MO_flips x0 c n w z3 z4 z5 z6 z7 z8 z9 z10 z11 fuel 1 x W d l5 0 T a1 a2 a3 a4 a5 a6 S F = fr_MO_flips x0 c n w z3 z4 z5 z6 z7 z8 z9 z10 z11 (fuel - r - 1) 0 x W (d + 1) 0 T a1 a2 a3 a4 a5 a6 S (lvN n d r l5 F) 0 := by
  have hW := h.1
  intro r
  induction r with
  | zero =>
    intro fuel l5 F hl hf hF
    obtain ⟨k, rfl⟩ : ∃ k, fuel = k + 1 := ⟨fuel - 1, by omega⟩
    rw [frs_MO_flips_82]
    unfold b_MO_flips_82
    rw [iLt_f (by omega) (by omega) (by omega), fz_eq, iA_n (by omega)]
    rfl
  | succ r ih =>
    intro fuel l5 F hl hf hF
    obtain ⟨k, rfl⟩ : ∃ k, fuel = k + 1 := ⟨fuel - 1, by omega⟩
    rw [frs_MO_flips_82, show k + 1 - (r + 1) - 1 = k - r - 1 by omega]
    unfold b_MO_flips_82 j_MO_flips_107
    rw [iLt_t (by omega) (by omega) (by omega)]
    by_cases hq : ag F l5 = d + 1
    · obtain ⟨g1, -, -⟩ := okF_upL (f := l5) (v := d) (by omega) (by omega) (nbs n l5) F hF hq
      rw [rd_k hq (by omega), iEq_t, mo_spread (b := d + 1) (v := d) h (by omega) (by omega) (by omega) hF hq, ob_s, fz_eq, iA_n (by omega), lvN_t hq]
      exact ih k (l5 + 1) _ (by omega) (by omega) g1
    · have hrd : ∃ u, u < 4294967296 ∧ u ≠ d ∧ ag F l5 = u + 1 := by
        rcases hF l5 (by omega) with hz | ⟨u, hu, hz⟩
        · exact ⟨4294967295, by omega, by omega, hz⟩
        · exact ⟨u, by omega, fun q => hq (by rw [hz, q]), hz⟩
      obtain ⟨u, u1, u2, u3⟩ := hrd
      rw [rd_k u3 (by omega), iEq_f u1 (by omega) u2, fz_eq, iA_n (by omega), lvN_f hq]
      exact ih k (l5 + 1) F (by omega) (by omega) hF
noncomputable def FdN (n W F0 : Nat) : Nat → Nat := fun d => Nat.rec F0 (fun d F => fz F (fun F => lvN n d W 0 F)) d
theorem FdN_s (n W F0 d : Nat) : FdN n W F0 (d + 1) = lvN n d W 0 (FdN n W F0 d) := by
  show fz (FdN n W F0 d) (fun F => lvN n d W 0 F) = _
  rw [fz_eq]
theorem okF_mono {W b b2 F : Nat} (h : okF W b F) (hb : b ≤ b2) : okF W b2 F := fun x hx => by
  rcases h x hx with q | ⟨v, q1, q2⟩
  · exact Or.inl q
  · exact Or.inr ⟨v, by omega, q2⟩
theorem Fd_ok {n W F0 : Nat} (h0 : okF W 0 F0) : ∀ d, d < 900 → okF W d (FdN n W F0 d) := by
  intro d
  induction d with
  | zero => intro _; exact h0
  | succ d ih =>
    intro hd
    rw [FdN_s]
    exact (lv_keep (by omega) W 0 _ (by omega) (okF_mono (ih (by omega)) (by omega))).1
theorem fl_run {n W S F0 L x : Nat} (h : SetsOk n W S) (h0 : okF W 0 F0) (hL : L < 800) (hx : x < W) (hfin : ag (FdN n W F0 L) x ≠ 4294967296) : ∀ r d fuel, d + r = L → r * 140 + 1 < fuel → ∃ F2, (ag (FdN n W F0 d) x ≠ 4294967296 → ag (FdN n W F0 L) x = ag (FdN n W F0 d) x) ∧ ∀ x0 c w z3 z4 z5 z6 z7 z8 z9 z10 z11 T a1 a2 a3 a4 a5 a6, fr_MO_flips x0 c n w z3 z4 z5 z6 z7 z8 z9 z10 z11 fuel 0 x W d 0 T a1 a2 a3 a4 a5 a6 S (FdN n W F0 d) 0 = some (ag (FdN n W F0 L) x - 1, 0, T, a1, a2, a3, a4, a5, a6, S, F2) := by
  have hW := h.1
  have stop : ∀ d k, d < 900 → ag (FdN n W F0 d) x ≠ 4294967296 → ∀ x0 c w z3 z4 z5 z6 z7 z8 z9 z10 z11 T a1 a2 a3 a4 a5 a6, fr_MO_flips x0 c n w z3 z4 z5 z6 z7 z8 z9 z10 z11 (k + 1) 0 x W d 0 T a1 a2 a3 a4 a5 a6 S (FdN n W F0 d) 0 = some (ag (FdN n W F0 d) x - 1, 0, T, a1, a2, a3, a4, a5, a6, S, FdN n W F0 d) := by
    intro d k hd hne x0 c w z3 z4 z5 z6 z7 z8 z9 z10 z11 T a1 a2 a3 a4 a5 a6
    rcases Fd_ok (n := n) h0 d hd x hx with q | ⟨v, q1, q2⟩
    · exact absurd q hne
    · rw [frs_MO_flips_70]
      unfold b_MO_flips_70
      rw [rd_k q2 (by omega), iLt_f (by omega) (by omega) (by omega), rd_k q2 (by omega), q2, Nat.add_sub_cancel]
  intro r
  induction r with
  | zero =>
    intro d fuel hd hf
    obtain ⟨k, rfl⟩ : ∃ k, fuel = k + 1 := ⟨fuel - 1, by omega⟩
    obtain rfl : d = L := by omega
    exact ⟨_, fun _ => rfl, stop d k (by omega) hfin⟩
  | succ r ih =>
    intro d fuel hd hf
    obtain ⟨k, rfl⟩ : ∃ k, fuel = k + 1 := ⟨fuel - 1, by omega⟩
    obtain ⟨k2, rfl⟩ : ∃ k2, k = k2 + 1 := ⟨k - 1, by omega⟩
    have hok := okF_mono (Fd_ok (n := n) h0 d (by omega)) (show d ≤ d + 1 by omega)
    obtain ⟨-, hkeep⟩ := lv_keep (n := n) (d := d) (by omega) W 0 _ (by omega) hok
    obtain ⟨F2, i1, i2⟩ := ih (d + 1) (k2 + 1 - W - 1) (by omega) (by omega)
    have per : ag (FdN n W F0 d) x ≠ 4294967296 → ag (FdN n W F0 L) x = ag (FdN n W F0 d) x := fun hne => by
      have e := hkeep x hne
      rw [← FdN_s] at e
      rw [i1 (by rw [e]; exact hne), e]
    by_cases hq : ag (FdN n W F0 d) x = 4294967296
    · refine ⟨F2, per, fun x0 c w z3 z4 z5 z6 z7 z8 z9 z10 z11 T a1 a2 a3 a4 a5 a6 => ?_⟩
      rw [frs_MO_flips_70]
      unfold b_MO_flips_70
      rw [rd_k (v := 4294967295) hq (by omega), iLt_big (by omega) (by omega) 0 (by omega), lv_go h (by omega) W (k2 + 1) 0 _ (by omega) (by omega) hok, ← FdN_s]
      exact i2 x0 c w z3 z4 z5 z6 z7 z8 z9 z10 z11 T a1 a2 a3 a4 a5 a6
    · refine ⟨FdN n W F0 d, per, fun x0 c w z3 z4 z5 z6 z7 z8 z9 z10 z11 T a1 a2 a3 a4 a5 a6 => ?_⟩
      rw [per hq]
      exact stop d (k2 + 1) (by omega) hq x0 c w z3 z4 z5 z6 z7 z8 z9 z10 z11 T a1 a2 a3 a4 a5 a6
