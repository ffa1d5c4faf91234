/-! longs by their numbers (lN), arrays of longs by one number (65 bits an element), rows over them; division and remainder of ints -/
noncomputable def jM (a b : Nat) : Nat := fz a (fun a => fz b (fun b => Nat.mod (Nat.mul a b) (nat_lit 18446744073709551616)))
noncomputable def jS (a b : Nat) : Nat := fz a (fun a => fz b (fun b => Nat.mod (Nat.add a (Nat.sub (nat_lit 18446744073709551616) (Nat.mod b (nat_lit 18446744073709551616)))) (nat_lit 18446744073709551616)))
noncomputable def jX (a : Nat) : Nat := fz a (fun a => bif Nat.blt (Nat.mod a (nat_lit 4294967296)) (nat_lit 2147483648) then Nat.mod a (nat_lit 4294967296) else Nat.add (Nat.mod a (nat_lit 4294967296)) (nat_lit 18446744069414584320))
noncomputable def jI (a : Nat) : Nat := fz a (fun a => Nat.mod a (nat_lit 4294967296))
noncomputable def jAnd (a b : Nat) : Nat := fz a (fun a => fz b (fun b => Nat.land (Nat.mod a (nat_lit 18446744073709551616)) (Nat.mod b (nat_lit 18446744073709551616))))
noncomputable def jOr (a b : Nat) : Nat := fz a (fun a => fz b (fun b => Nat.lor (Nat.mod a (nat_lit 18446744073709551616)) (Nat.mod b (nat_lit 18446744073709551616))))
noncomputable def jXor (a b : Nat) : Nat := fz a (fun a => fz b (fun b => Nat.xor (Nat.mod a (nat_lit 18446744073709551616)) (Nat.mod b (nat_lit 18446744073709551616))))
noncomputable def jShl (a k : Nat) : Nat := fz a (fun a => fz k (fun k => Nat.mod (Nat.mul a (Nat.pow 2 k)) (nat_lit 18446744073709551616)))
noncomputable def jShr (a k : Nat) : Nat := fz a (fun a => fz k (fun k => Nat.div a (Nat.pow 2 k)))
noncomputable def jDiv (a b : Nat) : Nat := fz a (fun a => fz b (fun b => Nat.div a b))
noncomputable def jRem (a b : Nat) : Nat := fz a (fun a => fz b (fun b => Nat.mod a b))
noncomputable def jLt (a b : Nat) : Bool := fz a (fun a => fz b (fun b => Nat.blt (Nat.mod (Nat.add a (nat_lit 9223372036854775808)) (nat_lit 18446744073709551616)) (Nat.mod (Nat.add b (nat_lit 9223372036854775808)) (nat_lit 18446744073709551616))))
noncomputable def jC (a b : Nat) : Nat := bif jLt b a then 1 else bif jLt a b then 4294967295 else 0
noncomputable def agL (O i : Nat) : Nat := fz O (fun O => fz i (fun i => Nat.mod (Nat.shiftRight O (Nat.mul (nat_lit 65) i)) (nat_lit 36893488147419103232)))
noncomputable def awL (O i v : Nat) : Nat := fz v (fun v => fz O (fun O => fz i (fun i => Nat.xor O (Nat.shiftLeft (Nat.xor (Nat.mod (Nat.shiftRight O (Nat.mul (nat_lit 65) i)) (nat_lit 36893488147419103232)) (Nat.succ (Nat.mod v (nat_lit 18446744073709551616)))) (Nat.mul (nat_lit 65) i)))))
noncomputable def arL (f : Nat → Int64) (O : Nat) : Nat → Int64 := fun i => if agL O i = 0 then f i else lN (agL O i - 1)
theorem jM_eq (a b : Nat) : jM a b = (a * b) % 18446744073709551616 := by
  unfold jM
  rw [fz_eq, fz_eq]
  rfl
theorem jS_eq (a b : Nat) : jS a b = (a + (18446744073709551616 - b % 18446744073709551616)) % 18446744073709551616 := by
  unfold jS
  rw [fz_eq, fz_eq]
  rfl
theorem jX_eq (a : Nat) : jX a = if a % 4294967296 < 2147483648 then a % 4294967296 else a % 4294967296 + 18446744069414584320 := by
  unfold jX
  rw [fz_eq]
  show (bif Nat.blt (a % 4294967296) 2147483648 then a % 4294967296 else a % 4294967296 + 18446744069414584320) = _
  generalize a % 4294967296 = x
  cases h : Nat.blt x 2147483648 with
  | true =>
    rw [Nat.blt_eq] at h
    rw [if_pos h]
    exact cond_true _ _
  | false =>
    have h2 : ¬ x < 2147483648 := fun q => by
      rw [← Nat.blt_eq, h] at q
      cases q
    rw [if_neg h2]
    exact cond_false _ _
theorem jI_eq (a : Nat) : jI a = a % 4294967296 := by
  unfold jI
  rw [fz_eq]
  rfl
theorem jAnd_eq (a b : Nat) : jAnd a b = (a % 18446744073709551616) &&& (b % 18446744073709551616) := by
  unfold jAnd
  rw [fz_eq, fz_eq]
  rfl
theorem jOr_eq (a b : Nat) : jOr a b = (a % 18446744073709551616) ||| (b % 18446744073709551616) := by
  unfold jOr
  rw [fz_eq, fz_eq]
  rfl
theorem jXor_eq (a b : Nat) : jXor a b = (a % 18446744073709551616) ^^^ (b % 18446744073709551616) := by
  unfold jXor
  rw [fz_eq, fz_eq]
  rfl
theorem jShl_eq (a k : Nat) : jShl a k = (a * 2 ^ k) % 18446744073709551616 := by
  unfold jShl
  rw [fz_eq, fz_eq]
  rfl
theorem jShr_eq (a k : Nat) : jShr a k = a / 2 ^ k := by
  unfold jShr
  rw [fz_eq, fz_eq]
  rfl
theorem jDiv_eq (a b : Nat) : jDiv a b = a / b := by
  unfold jDiv
  rw [fz_eq, fz_eq]
  rfl
theorem jRem_eq (a b : Nat) : jRem a b = a % b := by
  unfold jRem
  rw [fz_eq, fz_eq]
  rfl
theorem jLt_eq (a b : Nat) : jLt a b = Nat.blt ((a + 9223372036854775808) % 18446744073709551616) ((b + 9223372036854775808) % 18446744073709551616) := by
  unfold jLt
  rw [fz_eq, fz_eq]
  rfl
theorem agL_eq (O i : Nat) : agL O i = (O >>> (65 * i)) % 2 ^ 65 := by
  unfold agL
  rw [fz_eq, fz_eq]
  rfl
theorem awL_eq (O i v : Nat) : awL O i v = O ^^^ (((O >>> (65 * i)) % 2 ^ 65 ^^^ (v % 18446744073709551616 + 1)) <<< (65 * i)) := by
  unfold awL
  rw [fz_eq, fz_eq, fz_eq]
  rfl
theorem lN_bv (n : Nat) : (lN n).toBitVec = BitVec.ofNat 64 n := rfl
theorem lN_tn (n : Nat) : (lN n).toBitVec.toNat = n % 18446744073709551616 := by
  rw [lN_bv, BitVec.toNat_ofNat]
theorem lN_mod (n : Nat) : lN (n % 18446744073709551616) = lN n := by
  apply Int64.toBitVec_inj.mp
  apply BitVec.eq_of_toNat_eq
  rw [lN_tn, lN_tn, Nat.mod_mod]
theorem lN_of_tn {x : Int64} {n : Nat} (h : x.toBitVec.toNat = n % 18446744073709551616) : x = lN n := by
  apply Int64.toBitVec_inj.mp
  apply BitVec.eq_of_toNat_eq
  rw [h, lN_tn]
theorem lN_jM (a b : Nat) : lN a * lN b = lN (jM a b) := by
  rw [lN_mul, jM_eq]
  exact (lN_mod (a * b)).symm
theorem lN_jS (a b : Nat) : lN a - lN b = lN (jS a b) := by
  have h : lN (jS a b) + lN b = lN a := by
    rw [lN_add, jS_eq]
    apply lN_of_tn
    rw [lN_tn]
    omega
  rw [← h, Int64.add_sub_cancel]
theorem lN_toI (n : Nat) : (lN n).toInt = if n % 18446744073709551616 < 9223372036854775808 then ((n % 18446744073709551616 : Nat) : Int) else ((n % 18446744073709551616 : Nat) : Int) - 18446744073709551616 := by
  have h : (lN n).toInt = (lN n).toBitVec.toInt := rfl
  rw [h, BitVec.toInt_eq_toNat_cond, lN_tn]
  by_cases q : n % 18446744073709551616 < 9223372036854775808
  · rw [if_pos (by omega), if_pos q]
  · rw [if_neg (by omega), if_neg q]
    rfl
theorem nI_jX (a : Nat) : (nI a).toInt64 = lN (jX a) := by
  apply Int64.toInt_inj.mp
  have h1 : (nI a).toInt64.toInt = (nI a).toInt := Int32.toInt_toInt64 _
  rw [h1, nI_toI, lN_toI, jX_eq]
  by_cases h : a % 4294967296 < 2147483648
  · rw [if_pos h, if_pos h, if_pos (by omega)]
    omega
  · rw [if_neg h, if_neg h, if_neg (by omega)]
    omega
theorem lN_jI (a : Nat) : (lN a).toInt32 = nI (jI a) := by
  rw [lN_i, jI_eq, nI_mod]
theorem lN_jAnd (a b : Nat) : lN a &&& lN b = lN (jAnd a b) := by
  apply lN_of_tn
  rw [Int64.toBitVec_and, BitVec.toNat_and, lN_tn, lN_tn, jAnd_eq]
  exact (Nat.mod_eq_of_lt (Nat.and_lt_two_pow (n := 64) _ (Nat.mod_lt _ (by decide)))).symm
theorem lN_jOr (a b : Nat) : lN a ||| lN b = lN (jOr a b) := by
  apply lN_of_tn
  rw [Int64.toBitVec_or, BitVec.toNat_or, lN_tn, lN_tn, jOr_eq]
  exact (Nat.mod_eq_of_lt (Nat.or_lt_two_pow (n := 64) (Nat.mod_lt _ (by decide)) (Nat.mod_lt _ (by decide)))).symm
theorem lN_jXor (a b : Nat) : lN a ^^^ lN b = lN (jXor a b) := by
  apply lN_of_tn
  rw [Int64.toBitVec_xor, BitVec.toNat_xor, lN_tn, lN_tn, jXor_eq]
  exact (Nat.mod_eq_of_lt (Nat.xor_lt_two_pow (n := 64) (Nat.mod_lt _ (by decide)) (Nat.mod_lt _ (by decide)))).symm
theorem sh_c : ∀ k, k < 64 → ((nI k).toInt64 &&& 63) = lN k := by decide +kernel
theorem sh_sm : ∀ k, k < 64 → (BitVec.ofNat 64 k).smod 64 = BitVec.ofNat 64 k := by decide +kernel
theorem lN_jShl (a : Nat) {k : Nat} (hk : k < 64) : lN a <<< ((nI k).toInt64 &&& 63) = lN (jShl a k) := by
  rw [sh_c k hk, jShl_eq, lN_mod]
  apply Int64.toBitVec_inj.mp
  rw [Int64.toBitVec_shiftLeft, lN_bv, lN_bv, lN_bv, sh_sm k hk]
  apply BitVec.eq_of_toNat_eq
  rw [BitVec.shiftLeft_eq', BitVec.toNat_shiftLeft, BitVec.toNat_ofNat, BitVec.toNat_ofNat, BitVec.toNat_ofNat, Nat.mod_eq_of_lt (show k < 2 ^ 64 by omega), Nat.shiftLeft_eq, Nat.mul_mod, Nat.mod_mod, ← Nat.mul_mod]
theorem lN_jShr {a k : Nat} (ha : a < 9223372036854775808) (hk : k < 64) : lN a >>> ((nI k).toInt64 &&& 63) = lN (jShr a k) := by
  rw [sh_c k hk, jShr_eq]
  have hD : ((lN k).toBitVec.smod 64).toNat = k := by
    rw [lN_bv, sh_sm k hk, BitVec.toNat_ofNat, Nat.mod_eq_of_lt (by omega)]
  have hd : a / 2 ^ k ≤ a := Nat.div_le_self _ _
  apply Int64.toInt_inj.mp
  have e : (lN a >>> lN k).toInt = (lN a).toInt >>> k := by
    conv => rhs; rw [← hD]
    exact BitVec.toInt_sshiftRight ..
  rw [e, Int.shiftRight_eq_div_pow, pk_lT (by omega), pk_lT (by omega)]
  rfl
theorem lN_jLt (a b : Nat) : jLt a b = true ↔ lN a < lN b := by
  rw [Int64.lt_iff_toInt_lt, lN_toI, lN_toI, jLt_eq, Nat.blt_eq]
  split <;> split <;> omega
theorem lN_jC (a b : Nat) : lg_cmp (lN a) (lN b) = nI (jC a b) := by
  have h0 : ∀ x y : Nat, jLt x y = false → ¬ lN x < lN y := fun x y h q => by
    rw [(lN_jLt x y).mpr q] at h
    cases h
  unfold lg_cmp jC
  cases h1 : jLt b a with
  | true =>
    have := (lN_jLt b a).mp h1
    simp [this]
    rfl
  | false =>
    have n1 := h0 b a h1
    cases h2 : jLt a b with
    | true =>
      have h3 := (lN_jLt a b).mp h2
      have n2 : ¬ lN a = lN b := fun q => by
        rw [q] at h3
        exact Int64.lt_irrefl h3
      simp [n1, n2]
      rfl
    | false =>
      have n2 := h0 a b h2
      have e : lN a = lN b := Int64.le_antisymm (Int64.not_lt.mp n1) (Int64.not_lt.mp n2)
      simp [e]
      rfl
theorem agL_bit (O i k : Nat) : (agL O i).testBit k = (decide (k < 65) && O.testBit (65 * i + k)) := by
  rw [agL_eq, Nat.testBit_mod_two_pow, Nat.testBit_shiftRight]
theorem agL_awL (O i v j : Nat) : agL (awL O i v) j = if i = j then v % 18446744073709551616 + 1 else agL O j := by
  have hd : v % 18446744073709551616 + 1 = (v % 18446744073709551616 + 1) % 2 ^ 65 := by omega
  apply Nat.eq_of_testBit_eq
  intro k
  rw [agL_bit, awL_eq, ← agL_eq, hd]
  generalize v % 18446744073709551616 + 1 = d
  rw [Nat.testBit_xor, Nat.testBit_shiftLeft, Nat.testBit_xor, agL_bit, Nat.testBit_mod_two_pow]
  by_cases hk : k < 65
  · by_cases hij : i = j
    · subst hij
      have e1 : 65 * i + k - 65 * i = k := by omega
      rw [if_pos rfl, e1, Nat.testBit_mod_two_pow]
      simp [hk]
    · rw [if_neg hij, agL_bit]
      by_cases hlt : i < j
      · have h3 : ¬ (65 * j + k - 65 * i < 65) := by omega
        simp [hk, h3]
      · have h3 : ¬ (65 * i ≤ 65 * j + k) := by omega
        simp [hk, h3]
  · by_cases hij : i = j
    · rw [if_pos hij, Nat.testBit_mod_two_pow]
      simp [hk]
    · rw [if_neg hij, agL_bit]
      simp [hk]
theorem agL_0 (i : Nat) : agL 0 i = 0 := by
  rw [agL_eq, Nat.zero_shiftRight]
theorem arL_0 (f : Nat → Int64) : arL f 0 = f := by
  funext i
  show (if agL 0 i = 0 then f i else _) = f i
  rw [if_pos (agL_0 i)]
theorem arL_get (f : Nat → Int64) {O i v : Nat} (h : agL O i = v + 1) : arL f O i = lN v := by
  show (if agL O i = 0 then f i else lN (agL O i - 1)) = lN v
  rw [h, if_neg (by omega), Nat.add_sub_cancel]
theorem arL_up (f : Nat → Int64) (O i v : Nat) : vp_updL (arL f O) i (lN v) = arL f (awL O i v) := by
  funext j
  show (if j = i then lN v else (if agL O j = 0 then f j else lN (agL O j - 1))) = (if agL (awL O i v) j = 0 then f j else lN (agL (awL O i v) j - 1))
  rw [agL_awL]
  by_cases h : i = j
  · subst h
    rw [if_pos rfl, if_pos rfl, if_neg (by omega), Nat.add_sub_cancel, lN_mod]
  · rw [if_neg h, if_neg (fun q => h q.symm)]
noncomputable def rdL {α : Type} (O n i : Nat) (k : Nat → Option α) : Option α := bif Nat.blt i n then (Nat.rec none (fun v _ => k v) (agL O i) : Option α) else none
theorem rdL_s {α : Type} {O n i : Nat} {k : Nat → Option α} {r : α} (h : rdL O n i k = some r) : i < n ∧ ∃ v, agL O i = v + 1 ∧ k v = some r := by
  obtain ⟨hi, h⟩ := bf_in h
  refine ⟨hi, ?_⟩
  cases hg : agL O i with
  | zero => rw [hg] at h; cases h
  | succ v => rw [hg] at h; exact ⟨v, rfl, h⟩
section
variable {p : Program} {l : Launch} {e : Env} {R : Room} {s : State} {m : MethodId} {args : Array Value} {below : List Frame} {meth : Method} {c : Code} {H : Heap} {locs : List Loc} {cells slots : Nat} {Q : State → Prop}
variable {cc : ByteArray} {pc : Nat} {ls : Array Slot} {rest : List Value} {α : Type} {X Y : Option α} {r : α}
theorem lx_lmul (hexec : p.tables.exec = Jvm.exec) (hb : c.code = cc) {a b : Nat} (hdg : decode cc pc = .ok (.lmul, 1))
    (k : W p l e R s m args below meth c H locs cells slots Q (F0 m (pc + 1) ls (.long (lN (jM a b)) :: rest))) : W p l e R s m args below meth c H locs cells slots Q (F0 m pc ls (.long (lN b) :: .long (lN a) :: rest)) :=
  lv_lmul hexec hb hdg (by rw [lN_jM]; exact k)
theorem lx_lsub (hexec : p.tables.exec = Jvm.exec) (hb : c.code = cc) {a b : Nat} (hdg : decode cc pc = .ok (.lsub, 1))
    (k : W p l e R s m args below meth c H locs cells slots Q (F0 m (pc + 1) ls (.long (lN (jS a b)) :: rest))) : W p l e R s m args below meth c H locs cells slots Q (F0 m pc ls (.long (lN b) :: .long (lN a) :: rest)) :=
  lv_lsub hexec hb hdg (by rw [lN_jS]; exact k)
theorem lx_land (hexec : p.tables.exec = Jvm.exec) (hb : c.code = cc) {a b : Nat} (hdg : decode cc pc = .ok (.land, 1))
    (k : W p l e R s m args below meth c H locs cells slots Q (F0 m (pc + 1) ls (.long (lN (jAnd a b)) :: rest))) : W p l e R s m args below meth c H locs cells slots Q (F0 m pc ls (.long (lN b) :: .long (lN a) :: rest)) :=
  lv_land hexec hb hdg (by rw [lN_jAnd]; exact k)
theorem lx_lor (hexec : p.tables.exec = Jvm.exec) (hb : c.code = cc) {a b : Nat} (hdg : decode cc pc = .ok (.lor, 1))
    (k : W p l e R s m args below meth c H locs cells slots Q (F0 m (pc + 1) ls (.long (lN (jOr a b)) :: rest))) : W p l e R s m args below meth c H locs cells slots Q (F0 m pc ls (.long (lN b) :: .long (lN a) :: rest)) :=
  lv_lor hexec hb hdg (by rw [lN_jOr]; exact k)
theorem lx_lxor (hexec : p.tables.exec = Jvm.exec) (hb : c.code = cc) {a b : Nat} (hdg : decode cc pc = .ok (.lxor, 1))
    (k : W p l e R s m args below meth c H locs cells slots Q (F0 m (pc + 1) ls (.long (lN (jXor a b)) :: rest))) : W p l e R s m args below meth c H locs cells slots Q (F0 m pc ls (.long (lN b) :: .long (lN a) :: rest)) :=
  lv_lxor hexec hb hdg (by rw [lN_jXor]; exact k)
theorem lx_i2l (hexec : p.tables.exec = Jvm.exec) (hb : c.code = cc) {a : Nat} (hdg : decode cc pc = .ok (.i2l, 1))
    (k : W p l e R s m args below meth c H locs cells slots Q (F0 m (pc + 1) ls (.long (lN (jX a)) :: rest))) : W p l e R s m args below meth c H locs cells slots Q (F0 m pc ls (.int (nI a) :: rest)) :=
  lv_i2l hexec hb hdg (nI_jX a) k
theorem lx_l2i (hexec : p.tables.exec = Jvm.exec) (hb : c.code = cc) {a : Nat} (hdg : decode cc pc = .ok (.l2i, 1))
    (k : W p l e R s m args below meth c H locs cells slots Q (F0 m (pc + 1) ls (.int (nI (jI a)) :: rest))) : W p l e R s m args below meth c H locs cells slots Q (F0 m pc ls (.long (lN a) :: rest)) :=
  lv_l2i hexec hb hdg (lN_jI a) k
theorem lx_lcmp (hexec : p.tables.exec = Jvm.exec) (hb : c.code = cc) {a b : Nat} (hdg : decode cc pc = .ok (.lcmp, 1))
    (k : W p l e R s m args below meth c H locs cells slots Q (F0 m (pc + 1) ls (.int (nI (jC a b)) :: rest))) : W p l e R s m args below meth c H locs cells slots Q (F0 m pc ls (.long (lN b) :: .long (lN a) :: rest)) :=
  W.lcmp hexec hb hdg (by rw [lN_jC]; exact k)
theorem lx_lshl (hexec : p.tables.exec = Jvm.exec) (hb : c.code = cc) {a b : Nat} (hdg : decode cc pc = .ok (.lshl, 1)) (hf : (bif Nat.blt b 64 then X else none) = some r)
    (k : X = some r → W p l e R s m args below meth c H locs cells slots Q (F0 m (pc + 1) ls (.long (lN (jShl a b)) :: rest))) : W p l e R s m args below meth c H locs cells slots Q (F0 m pc ls (.int (nI b) :: .long (lN a) :: rest)) :=
  lv_lshl hexec hb hdg (lN_jShl a (bf_in hf).1) (k (bf_in hf).2)
theorem lx_lshr (hexec : p.tables.exec = Jvm.exec) (hb : c.code = cc) {a b : Nat} (hdg : decode cc pc = .ok (.lshr, 1)) (hf : (bif Nat.blt a 9223372036854775808 then (bif Nat.blt b 64 then X else none) else none) = some r)
    (k : X = some r → W p l e R s m args below meth c H locs cells slots Q (F0 m (pc + 1) ls (.long (lN (jShr a b)) :: rest))) : W p l e R s m args below meth c H locs cells slots Q (F0 m pc ls (.int (nI b) :: .long (lN a) :: rest)) :=
  lv_lshr hexec hb hdg (lN_jShr (bf_in hf).1 (bf_in (bf_in hf).2).1) (k (bf_in (bf_in hf).2).2)
theorem lx_ldiv (hexec : p.tables.exec = Jvm.exec) (hb : c.code = cc) {a b : Nat} (hdg : decode cc pc = .ok (.ldiv, 1)) (hf : (bif Nat.blt a 9223372036854775808 then (bif Nat.blt 0 b then (bif Nat.blt b 9223372036854775808 then X else none) else none) else none) = some r)
    (k : X = some r → W p l e R s m args below meth c H locs cells slots Q (F0 m (pc + 1) ls (.long (lN (jDiv a b)) :: rest))) : W p l e R s m args below meth c H locs cells slots Q (F0 m pc ls (.long (lN b) :: .long (lN a) :: rest)) := by
  obtain ⟨h1, hf⟩ := bf_in hf
  obtain ⟨h2, hf⟩ := bf_in hf
  obtain ⟨h3, hf⟩ := bf_in hf
  refine lv_ldiv hexec hb hdg (fun q => ?_) ?_
  · have h4 := (pk_lEQ (a := b) (b := 0) h3 (by decide)).mp q
    omega
  · rw [pk_lDiv h1 h2 h3, ← jDiv_eq]
    exact k hf
theorem lx_idiv (hexec : p.tables.exec = Jvm.exec) (hb : c.code = cc) {a b : Nat} (hdg : decode cc pc = .ok (.idiv, 1)) (hf : (bif Nat.blt a 2147483648 then (bif Nat.blt 0 b then (bif Nat.blt b 2147483648 then X else none) else none) else none) = some r)
    (k : X = some r → W p l e R s m args below meth c H locs cells slots Q (F0 m (pc + 1) ls (.int (nI (jDiv a b)) :: rest))) : W p l e R s m args below meth c H locs cells slots Q (F0 m pc ls (.int (nI b) :: .int (nI a) :: rest)) := by
  obtain ⟨h1, hf⟩ := bf_in hf
  obtain ⟨h2, hf⟩ := bf_in hf
  obtain ⟨h3, hf⟩ := bf_in hf
  refine lv_idiv hexec hb hdg (nI_ne0 h2 h3) ?_
  rw [pk_div h1 h2 h3, ← jDiv_eq]
  exact k hf
theorem lx_irem (hexec : p.tables.exec = Jvm.exec) (hb : c.code = cc) {a b : Nat} (hdg : decode cc pc = .ok (.irem, 1)) (hf : (bif Nat.blt a 2147483648 then (bif Nat.blt 0 b then (bif Nat.blt b 2147483648 then X else none) else none) else none) = some r)
    (k : X = some r → W p l e R s m args below meth c H locs cells slots Q (F0 m (pc + 1) ls (.int (nI (jRem a b)) :: rest))) : W p l e R s m args below meth c H locs cells slots Q (F0 m pc ls (.int (nI b) :: .int (nI a) :: rest)) := by
  obtain ⟨h1, hf⟩ := bf_in hf
  obtain ⟨h2, hf⟩ := bf_in hf
  obtain ⟨h3, hf⟩ := bf_in hf
  refine lv_irem hexec hb hdg (nI_ne0 h2 h3) ?_
  rw [pk_rem h1 h2 h3, ← jRem_eq]
  exact k hf
variable {D : va_G} {cl : List vw_C} {A : Nat → Prop} {a : Nat} {tys : List (ClassId × FieldType)} {ws : va_W} {H0 : Heap}
theorem lx_lald (hexec : p.tables.exec = Jvm.exec) (hb : c.code = cc) (hK : va_K D cl tys s) (hP : va_P D cl ws H) (q0 t0 : Nat) {cA : ClassId} {n O i : Nat} {f : Nat → Int64} (ha : ws[q0]? = some (a, .inl (cA, n, .inr (.inl (arL f O))))) (ht : tys[t0]? = some (cA, .long)) (hn : n < 2147483648) (hdg : decode cc pc = .ok (.laload, 1)) {k : Nat → Option α} (hf : rdL O n i k = some r)
    (kk : ∀ v : Nat, agL O i = v + 1 → k v = some r → W p l e R s m args below meth c H locs cells slots Q (F0 m (pc + 1) ls (.long (lN v) :: rest))) : W p l e R s m args below meth c H locs cells slots Q (F0 m pc ls (.int (nI i) :: .ref a :: rest)) := by
  obtain ⟨hi, v, hv, hf⟩ := rdL_s hf
  refine va_lald hexec hb hK hP q0 t0 ha ht (vp_in_nI hi hn) hdg ?_
  rw [nI_clamp (by omega), arL_get f hv]
  exact kk v hv hf
theorem lx_last (hexec : p.tables.exec = Jvm.exec) (hb : c.code = cc) (hK : va_K D cl tys s) (hP : va_P D cl ws H) (hD : va_D A ws) (hS : va_S A H0 H locs) (q0 t0 : Nat) {cA : ClassId} {n O i v : Nat} {f : Nat → Int64} (ha : ws[q0]? = some (a, .inl (cA, n, .inr (.inl (arL f O))))) (ht : tys[t0]? = some (cA, .long)) (hn : n < 2147483648) (hdg : decode cc pc = .ok (.lastore, 1)) (hf : (bif Nat.blt i n then X else none) = some r)
    (kk : X = some r → ∀ (H1 : Heap) (locs1 : List Loc), va_P D cl (ws.set q0 (a, .inl (cA, n, .inr (.inl (arL f (awL O i v)))))) H1 → va_D A (ws.set q0 (a, .inl (cA, n, .inr (.inl (arL f (awL O i v)))))) → va_S A H0 H1 locs1 → W p l e R s m args below meth c H1 locs1 cells slots Q (F0 m (pc + 1) ls rest)) : W p l e R s m args below meth c H locs cells slots Q (F0 m pc ls (.long (lN v) :: .int (nI i) :: .ref a :: rest)) := by
  obtain ⟨hi, hf⟩ := bf_in hf
  refine va_last hexec hb hK hP hD hS q0 t0 ha ht (vp_in_nI hi hn) hdg (fun H1 locs1 => ?_)
  rw [nI_clamp (by omega), arL_up]
  exact kk hf H1 locs1
end
