/-! ints by their numbers (nI), arrays of ints by one number (32 bits an element), rows over them -/
/-- what follows gets the number evaluated; on a number that isn't known it stands still -/
noncomputable def fz {α : Type} (x : Nat) (k : Nat → α) : α := Nat.rec (k 0) (fun v _ => k (Nat.succ v)) x
theorem fz_eq {α : Type} (x : Nat) (k : Nat → α) : fz x k = k x := by
  cases x <;> rfl
theorem fz_s {α : Type} {x : Nat} {k : Nat → Option α} {r : α} (h : fz x k = some r) : k x = some r := by
  rw [fz_eq] at h
  exact h
noncomputable def iA (a b : Nat) : Nat := fz a (fun a => fz b (fun b => Nat.mod (Nat.add a b) (nat_lit 4294967296)))
noncomputable def iS (a b : Nat) : Nat := fz a (fun a => fz b (fun b => Nat.mod (Nat.add a (Nat.sub (nat_lit 4294967296) (Nat.mod b (nat_lit 4294967296)))) (nat_lit 4294967296)))
noncomputable def iM (a b : Nat) : Nat := fz a (fun a => fz b (fun b => Nat.mod (Nat.mul a b) (nat_lit 4294967296)))
noncomputable def iLt (a b : Nat) : Bool := fz a (fun a => fz b (fun b => Nat.blt (Nat.mod (Nat.add a (nat_lit 2147483648)) (nat_lit 4294967296)) (Nat.mod (Nat.add b (nat_lit 2147483648)) (nat_lit 4294967296))))
noncomputable def iMx (a b : Nat) : Nat := bif iLt a b then b else a
noncomputable def iMn (a b : Nat) : Nat := bif iLt b a then b else a
noncomputable def iEq (a b : Nat) : Bool := fz a (fun a => fz b (fun b => Nat.beq (Nat.mod a (nat_lit 4294967296)) (Nat.mod b (nat_lit 4294967296))))
/-- an array's known elements in one number: 33 bits an element, 0: not known, v + 1: v -/
noncomputable def ag (O i : Nat) : Nat := fz O (fun O => fz i (fun i => Nat.mod (Nat.shiftRight O (Nat.mul (nat_lit 33) i)) (nat_lit 8589934592)))
noncomputable def au (O i d : Nat) : Nat := fz O (fun O => fz i (fun i => fz d (fun d => Nat.xor O (Nat.shiftLeft (Nat.xor (Nat.mod (Nat.shiftRight O (Nat.mul (nat_lit 33) i)) (nat_lit 8589934592)) (Nat.mod d (nat_lit 8589934592))) (Nat.mul (nat_lit 33) i)))))
noncomputable def aw (O i v : Nat) : Nat := fz v (fun v => au O i (Nat.succ (Nat.mod v (nat_lit 4294967296))))
noncomputable def ar (f : Nat → Int32) (O : Nat) : Nat → Int32 := fun i => if ag O i = 0 then f i else nI (ag O i - 1)
theorem iA_eq (a b : Nat) : iA a b = (a + b) % 4294967296 := by
  unfold iA
  rw [fz_eq, fz_eq]
  rfl
theorem iS_eq (a b : Nat) : iS a b = (a + (4294967296 - b % 4294967296)) % 4294967296 := by
  unfold iS
  rw [fz_eq, fz_eq]
  rfl
theorem iM_eq (a b : Nat) : iM a b = (a * b) % 4294967296 := by
  unfold iM
  rw [fz_eq, fz_eq]
  rfl
theorem iLt_eq (a b : Nat) : iLt a b = Nat.blt ((a + 2147483648) % 4294967296) ((b + 2147483648) % 4294967296) := by
  unfold iLt
  rw [fz_eq, fz_eq]
  rfl
theorem iEq_eq (a b : Nat) : iEq a b = Nat.beq (a % 4294967296) (b % 4294967296) := by
  unfold iEq
  rw [fz_eq, fz_eq]
  rfl
theorem ag_eq (O i : Nat) : ag O i = (O >>> (33 * i)) % 2 ^ 33 := by
  unfold ag
  rw [fz_eq, fz_eq]
  rfl
theorem au_eq (O i d : Nat) : au O i d = O ^^^ (((O >>> (33 * i)) % 2 ^ 33 ^^^ (d % 2 ^ 33)) <<< (33 * i)) := by
  unfold au
  rw [fz_eq, fz_eq, fz_eq]
  rfl
theorem aw_eq (O i v : Nat) : aw O i v = au O i (v % 4294967296 + 1) := by
  unfold aw
  rw [fz_eq]
  rfl
theorem nI_tn (n : Nat) : (nI n).toBitVec.toNat = n % 4294967296 := by
  show (BitVec.ofNat 32 n).toNat = _
  rw [BitVec.toNat_ofNat]
theorem nI_mod (n : Nat) : nI (n % 4294967296) = nI n := by
  apply Int32.toBitVec_inj.mp
  apply BitVec.eq_of_toNat_eq
  rw [nI_tn, nI_tn, Nat.mod_mod]
theorem nI_iA (a b : Nat) : nI a + nI b = nI (iA a b) := by
  rw [nI_add, iA_eq]
  exact (nI_mod (a + b)).symm
theorem nI_iM (a b : Nat) : nI a * nI b = nI (iM a b) := by
  rw [pk_mul, iM_eq]
  exact (nI_mod (a * b)).symm
theorem nI_iS (a b : Nat) : nI a - nI b = nI (iS a b) := by
  have h : nI (iS a b) + nI b = nI a := by
    rw [nI_add]
    apply Int32.toBitVec_inj.mp
    apply BitVec.eq_of_toNat_eq
    rw [nI_tn, nI_tn, iS_eq]
    omega
  rw [← h, Int32.add_sub_cancel]
theorem nI_toI (n : Nat) : (nI n).toInt = if n % 4294967296 < 2147483648 then ((n % 4294967296 : Nat) : Int) else ((n % 4294967296 : Nat) : Int) - 4294967296 := by
  have h : (nI n).toInt = (nI n).toBitVec.toInt := rfl
  rw [h, BitVec.toInt_eq_toNat_cond, nI_tn]
  by_cases q : n % 4294967296 < 2147483648
  · rw [if_pos (by omega), if_pos q]
  · rw [if_neg (by omega), if_neg q]
    rfl
theorem iLt_iff (a b : Nat) : iLt a b = true ↔ nI a < nI b := by
  rw [Int32.lt_iff_toInt_lt, nI_toI, nI_toI]
  rw [iLt_eq, Nat.blt_eq]
  split <;> split <;> omega
theorem iEq_iff (a b : Nat) : iEq a b = true ↔ nI a = nI b := by
  rw [iEq_eq, Nat.beq_eq]
  constructor
  · intro h
    rw [← nI_mod a, ← nI_mod b, h]
  · intro h
    have h2 := congrArg (fun x => x.toBitVec.toNat) h
    simpa only [nI_tn] using h2
theorem nI_of_any (x : Int32) : ∃ n, n < 4294967296 ∧ x = nI n := ⟨x.toBitVec.toNat, x.toBitVec.isLt, Int32.toBitVec_inj.mp (by show _ = BitVec.ofNat 32 _; simp)⟩
theorem ag_lt (O i : Nat) : ag O i < 8589934592 := by
  rw [ag_eq]
  exact Nat.mod_lt _ (by decide)
theorem ag_bit (O i k : Nat) : (ag O i).testBit k = (decide (k < 33) && O.testBit (33 * i + k)) := by
  rw [ag_eq, Nat.testBit_mod_two_pow, Nat.testBit_shiftRight]
theorem ag_au (O i d j : Nat) : ag (au O i d) j = if i = j then d % 8589934592 else ag O j := by
  apply Nat.eq_of_testBit_eq
  intro k
  rw [ag_bit, au_eq, ← ag_eq]
  show (decide (k < 33) && (O ^^^ ((ag O i ^^^ (d % 2 ^ 33)) <<< (33 * i))).testBit (33 * j + k)) = (if i = j then d % 2 ^ 33 else ag O j).testBit k
  rw [Nat.testBit_xor, Nat.testBit_shiftLeft, Nat.testBit_xor, ag_bit, Nat.testBit_mod_two_pow]
  by_cases hk : k < 33
  · by_cases hij : i = j
    · subst hij
      have e1 : 33 * i + k - 33 * i = k := by omega
      rw [if_pos rfl, e1, Nat.testBit_mod_two_pow]
      simp [hk]
    · rw [if_neg hij, ag_bit]
      by_cases hlt : i < j
      · have h3 : ¬ (33 * j + k - 33 * i < 33) := by omega
        simp [hk, h3]
      · have h3 : ¬ (33 * i ≤ 33 * j + k) := by omega
        simp [hk, h3]
  · by_cases hij : i = j
    · rw [if_pos hij, Nat.testBit_mod_two_pow]
      simp [hk]
    · rw [if_neg hij, ag_bit]
      simp [hk]
theorem ag_aw (O i v j : Nat) : ag (aw O i v) j = if i = j then v % 4294967296 + 1 else ag O j := by
  rw [aw_eq, ag_au]
  by_cases h : i = j
  · rw [if_pos h, if_pos h]
    omega
  · rw [if_neg h, if_neg h]
theorem ag_0 (i : Nat) : ag 0 i = 0 := by
  rw [ag_eq, Nat.zero_shiftRight]
theorem ar_0 (f : Nat → Int32) : ar f 0 = f := by
  funext i
  show (if ag 0 i = 0 then f i else _) = f i
  rw [if_pos (ag_0 i)]
theorem ar_get (f : Nat → Int32) {O i v : Nat} (h : ag O i = v + 1) : ar f O i = nI v := by
  show (if ag O i = 0 then f i else nI (ag O i - 1)) = nI v
  rw [h, if_neg (by omega), Nat.add_sub_cancel]
theorem ar_up (f : Nat → Int32) (O i v : Nat) : upd (ar f O) i (nI v) = ar f (aw O i v) := by
  funext j
  show (if j = i then nI v else (if ag O j = 0 then f j else nI (ag O j - 1))) = (if ag (aw O i v) j = 0 then f j else nI (ag (aw O i v) j - 1))
  rw [ag_aw]
  by_cases h : i = j
  · subst h
    rw [if_pos rfl, if_pos rfl, if_neg (by omega), Nat.add_sub_cancel, nI_mod]
  · rw [if_neg h, if_neg (fun q => h q.symm)]
/-- an element read: known, and in its range; what follows gets it evaluated -/
noncomputable def rd {α : Type} (O n i : Nat) (k : Nat → Option α) : Option α := bif Nat.blt i n then (Nat.rec none (fun v _ => k v) (ag O i) : Option α) else none
theorem no_s {α : Type} {r : α} {P : Prop} (h : (none : Option α) = some r) : P := nomatch h
theorem bd_s {α β : Type} {x : Option α} {k : α → Option β} {r : β} (h : Option.bind x k = some r) : ∃ q, x = some q ∧ k q = some r := by
  cases x with
  | none => cases h
  | some q => exact ⟨q, rfl, h⟩
theorem nb_bool {v : Nat} (h : v < 2) : narrow .boolean (.int (nI v)) = .int (nI v) := by
  rcases (by omega : v = 0 ∨ v = 1) with rfl | rfl <;> rfl
theorem bf_t {α : Type} {b : Bool} {X Y : Option α} {r : α} (hb : b = true) (h : (bif b then X else Y) = some r) : X = some r := by
  subst hb
  exact h
theorem bf_f {α : Type} {b : Bool} {X Y : Option α} {r : α} (hb : ¬ b = true) (h : (bif b then X else Y) = some r) : Y = some r := by
  cases b with
  | true => exact absurd rfl hb
  | false => exact h
theorem bf_in {α : Type} {i n : Nat} {X : Option α} {r : α} (h : (bif Nat.blt i n then X else none) = some r) : i < n ∧ X = some r := by
  cases hb : Nat.blt i n with
  | true =>
    rw [hb] at h
    exact ⟨by rw [Nat.blt_eq] at hb; exact hb, h⟩
  | false =>
    rw [hb] at h
    cases h
theorem rd_s {α : Type} {O n i : Nat} {k : Nat → Option α} {r : α} (h : rd O n i k = some r) : i < n ∧ ∃ v, ag O i = v + 1 ∧ k v = some r := by
  obtain ⟨hi, h⟩ := bf_in h
  refine ⟨hi, ?_⟩
  cases hg : ag O i with
  | zero => rw [hg] at h; cases h
  | succ v => rw [hg] at h; exact ⟨v, rfl, h⟩
section
variable {p : Program} {l : Launch} {e : Env} {R : Room} {s : State} {m : MethodId} {args : Array Value} {below : List Frame} {meth : Method} {c : Code} {H : Heap} {locs : List Loc} {cells slots : Nat} {Q : State → Prop}
variable {cc : ByteArray} {pc : Nat} {ls : Array Slot} {rest : List Value} {α : Type} {X Y : Option α} {r : α}
theorem lx_iadd (hexec : p.tables.exec = Jvm.exec) (hb : c.code = cc) {a b : Nat} (hdg : decode cc pc = .ok (.iadd, 1))
    (k : W p l e R s m args below meth c H locs cells slots Q (F0 m (pc + 1) ls (.int (nI (iA a b)) :: rest))) : W p l e R s m args below meth c H locs cells slots Q (F0 m pc ls (.int (nI b) :: .int (nI a) :: rest)) :=
  lv_iadd hexec hb hdg (by rw [nI_iA]; exact k)
theorem lx_isub (hexec : p.tables.exec = Jvm.exec) (hb : c.code = cc) {a b : Nat} (hdg : decode cc pc = .ok (.isub, 1))
    (k : W p l e R s m args below meth c H locs cells slots Q (F0 m (pc + 1) ls (.int (nI (iS a b)) :: rest))) : W p l e R s m args below meth c H locs cells slots Q (F0 m pc ls (.int (nI b) :: .int (nI a) :: rest)) :=
  lv_isub hexec hb hdg (by rw [nI_iS]; exact k)
theorem lx_imul (hexec : p.tables.exec = Jvm.exec) (hb : c.code = cc) {a b : Nat} (hdg : decode cc pc = .ok (.imul, 1))
    (k : W p l e R s m args below meth c H locs cells slots Q (F0 m (pc + 1) ls (.int (nI (iM a b)) :: rest))) : W p l e R s m args below meth c H locs cells slots Q (F0 m pc ls (.int (nI b) :: .int (nI a) :: rest)) :=
  lv_imul hexec hb hdg (by rw [nI_iM]; exact k)
theorem lx_iinc (hexec : p.tables.exec = Jvm.exec) (hb : c.code = cc) {i nL k : Nat} {n : Int} {x d : Nat} {lv lv' : List (Nat × Value)} (hdg : decode cc pc = .ok (.iinc i n, 3)) (h : lv_has ls nL lv) (hk : lv[k]? = some (i, .int (nI x))) (hv : Int32.ofInt n = nI d) (hn : i < nL) (hl : (i, Value.int (nI (iA x d))) :: lv.filter (fun q => !(q.1 == i) && !(q.1 + 1 == i && q.2.category == 2)) = lv')
    (kk : ∀ ls' : Array Slot, lv_has ls' nL lv' → W p l e R s m args below meth c H locs cells slots Q (F0 m (pc + 3) ls' rest)) : W p l e R s m args below meth c H locs cells slots Q (F0 m pc ls rest) :=
  lv_iinc hexec hb hdg h hk (by rw [hv, nI_iA]) hn hl kk
theorem lx_icmp_lt (hexec : p.tables.exec = Jvm.exec) (hb : c.code = cc) {a b : Nat} {off : Int} {tgt : Nat} (hdg : decode cc pc = .ok (.if_icmp .lt off, 3)) (ht : (pc : Int) + off = (tgt : Int)) (hf : (bif iLt a b then X else Y) = some r)
    (kt : X = some r → W p l e R s m args below meth c H locs cells slots Q (F0 m tgt ls rest)) (kf : Y = some r → W p l e R s m args below meth c H locs cells slots Q (F0 m (pc + 3) ls rest)) : W p l e R s m args below meth c H locs cells slots Q (F0 m pc ls (.int (nI b) :: .int (nI a) :: rest)) :=
  lv_icmp_lt hexec hb hdg ht (fun h => kt (bf_t ((iLt_iff a b).mpr h) hf)) (fun h => kf (bf_f (fun q => h ((iLt_iff a b).mp q)) hf))
theorem lx_icmp_ge (hexec : p.tables.exec = Jvm.exec) (hb : c.code = cc) {a b : Nat} {off : Int} {tgt : Nat} (hdg : decode cc pc = .ok (.if_icmp .ge off, 3)) (ht : (pc : Int) + off = (tgt : Int)) (hf : (bif iLt a b then X else Y) = some r)
    (kt : Y = some r → W p l e R s m args below meth c H locs cells slots Q (F0 m tgt ls rest)) (kf : X = some r → W p l e R s m args below meth c H locs cells slots Q (F0 m (pc + 3) ls rest)) : W p l e R s m args below meth c H locs cells slots Q (F0 m pc ls (.int (nI b) :: .int (nI a) :: rest)) :=
  lv_icmp_ge hexec hb hdg ht (fun h => kt (bf_f (fun q => Int32.not_le.mpr ((iLt_iff a b).mp q) h) hf)) (fun h => kf (bf_t ((iLt_iff a b).mpr (Int32.not_le.mp h)) hf))
theorem lx_icmp_gt (hexec : p.tables.exec = Jvm.exec) (hb : c.code = cc) {a b : Nat} {off : Int} {tgt : Nat} (hdg : decode cc pc = .ok (.if_icmp .gt off, 3)) (ht : (pc : Int) + off = (tgt : Int)) (hf : (bif iLt b a then X else Y) = some r)
    (kt : X = some r → W p l e R s m args below meth c H locs cells slots Q (F0 m tgt ls rest)) (kf : Y = some r → W p l e R s m args below meth c H locs cells slots Q (F0 m (pc + 3) ls rest)) : W p l e R s m args below meth c H locs cells slots Q (F0 m pc ls (.int (nI b) :: .int (nI a) :: rest)) :=
  lv_icmp_gt hexec hb hdg ht (fun h => kt (bf_t ((iLt_iff b a).mpr h) hf)) (fun h => kf (bf_f (fun q => h ((iLt_iff b a).mp q)) hf))
theorem lx_icmp_le (hexec : p.tables.exec = Jvm.exec) (hb : c.code = cc) {a b : Nat} {off : Int} {tgt : Nat} (hdg : decode cc pc = .ok (.if_icmp .le off, 3)) (ht : (pc : Int) + off = (tgt : Int)) (hf : (bif iLt b a then X else Y) = some r)
    (kt : Y = some r → W p l e R s m args below meth c H locs cells slots Q (F0 m tgt ls rest)) (kf : X = some r → W p l e R s m args below meth c H locs cells slots Q (F0 m (pc + 3) ls rest)) : W p l e R s m args below meth c H locs cells slots Q (F0 m pc ls (.int (nI b) :: .int (nI a) :: rest)) :=
  lv_icmp_le hexec hb hdg ht (fun h => kt (bf_f (fun q => Int32.not_le.mpr ((iLt_iff b a).mp q) h) hf)) (fun h => kf (bf_t ((iLt_iff b a).mpr (Int32.not_le.mp h)) hf))
theorem lx_icmp_eq (hexec : p.tables.exec = Jvm.exec) (hb : c.code = cc) {a b : Nat} {off : Int} {tgt : Nat} (hdg : decode cc pc = .ok (.if_icmp .eq off, 3)) (ht : (pc : Int) + off = (tgt : Int)) (hf : (bif iEq a b then X else Y) = some r)
    (kt : X = some r → W p l e R s m args below meth c H locs cells slots Q (F0 m tgt ls rest)) (kf : Y = some r → W p l e R s m args below meth c H locs cells slots Q (F0 m (pc + 3) ls rest)) : W p l e R s m args below meth c H locs cells slots Q (F0 m pc ls (.int (nI b) :: .int (nI a) :: rest)) :=
  lv_icmp_eq hexec hb hdg ht (fun h => kt (bf_t ((iEq_iff a b).mpr h) hf)) (fun h => kf (bf_f (fun q => h ((iEq_iff a b).mp q)) hf))
theorem lx_icmp_ne (hexec : p.tables.exec = Jvm.exec) (hb : c.code = cc) {a b : Nat} {off : Int} {tgt : Nat} (hdg : decode cc pc = .ok (.if_icmp .ne off, 3)) (ht : (pc : Int) + off = (tgt : Int)) (hf : (bif iEq a b then X else Y) = some r)
    (kt : Y = some r → W p l e R s m args below meth c H locs cells slots Q (F0 m tgt ls rest)) (kf : X = some r → W p l e R s m args below meth c H locs cells slots Q (F0 m (pc + 3) ls rest)) : W p l e R s m args below meth c H locs cells slots Q (F0 m pc ls (.int (nI b) :: .int (nI a) :: rest)) :=
  lv_icmp_ne hexec hb hdg ht (fun h => kt (bf_f (fun q => h ((iEq_iff a b).mp q)) hf)) (fun h => kf (bf_t ((iEq_iff a b).mpr h) hf))
theorem lx_if_lt (hexec : p.tables.exec = Jvm.exec) (hb : c.code = cc) {a : Nat} {off : Int} {tgt : Nat} (hdg : decode cc pc = .ok (.ifCond .lt off, 3)) (ht : (pc : Int) + off = (tgt : Int)) (hf : (bif iLt a 0 then X else Y) = some r)
    (kt : X = some r → W p l e R s m args below meth c H locs cells slots Q (F0 m tgt ls rest)) (kf : Y = some r → W p l e R s m args below meth c H locs cells slots Q (F0 m (pc + 3) ls rest)) : W p l e R s m args below meth c H locs cells slots Q (F0 m pc ls (.int (nI a) :: rest)) :=
  lv_if_lt hexec hb hdg ht (fun h => kt (bf_t ((iLt_iff a 0).mpr h) hf)) (fun h => kf (bf_f (fun q => h ((iLt_iff a 0).mp q)) hf))
theorem lx_if_ge (hexec : p.tables.exec = Jvm.exec) (hb : c.code = cc) {a : Nat} {off : Int} {tgt : Nat} (hdg : decode cc pc = .ok (.ifCond .ge off, 3)) (ht : (pc : Int) + off = (tgt : Int)) (hf : (bif iLt a 0 then X else Y) = some r)
    (kt : Y = some r → W p l e R s m args below meth c H locs cells slots Q (F0 m tgt ls rest)) (kf : X = some r → W p l e R s m args below meth c H locs cells slots Q (F0 m (pc + 3) ls rest)) : W p l e R s m args below meth c H locs cells slots Q (F0 m pc ls (.int (nI a) :: rest)) :=
  lv_if_ge hexec hb hdg ht (fun h => kt (bf_f (fun q => Int32.not_le.mpr ((iLt_iff a 0).mp q) h) hf)) (fun h => kf (bf_t ((iLt_iff a 0).mpr (Int32.not_le.mp h)) hf))
theorem lx_if_gt (hexec : p.tables.exec = Jvm.exec) (hb : c.code = cc) {a : Nat} {off : Int} {tgt : Nat} (hdg : decode cc pc = .ok (.ifCond .gt off, 3)) (ht : (pc : Int) + off = (tgt : Int)) (hf : (bif iLt 0 a then X else Y) = some r)
    (kt : X = some r → W p l e R s m args below meth c H locs cells slots Q (F0 m tgt ls rest)) (kf : Y = some r → W p l e R s m args below meth c H locs cells slots Q (F0 m (pc + 3) ls rest)) : W p l e R s m args below meth c H locs cells slots Q (F0 m pc ls (.int (nI a) :: rest)) :=
  lv_if_gt hexec hb hdg ht (fun h => kt (bf_t ((iLt_iff 0 a).mpr h) hf)) (fun h => kf (bf_f (fun q => h ((iLt_iff 0 a).mp q)) hf))
theorem lx_if_le (hexec : p.tables.exec = Jvm.exec) (hb : c.code = cc) {a : Nat} {off : Int} {tgt : Nat} (hdg : decode cc pc = .ok (.ifCond .le off, 3)) (ht : (pc : Int) + off = (tgt : Int)) (hf : (bif iLt 0 a then X else Y) = some r)
    (kt : Y = some r → W p l e R s m args below meth c H locs cells slots Q (F0 m tgt ls rest)) (kf : X = some r → W p l e R s m args below meth c H locs cells slots Q (F0 m (pc + 3) ls rest)) : W p l e R s m args below meth c H locs cells slots Q (F0 m pc ls (.int (nI a) :: rest)) :=
  lv_if_le hexec hb hdg ht (fun h => kt (bf_f (fun q => Int32.not_le.mpr ((iLt_iff 0 a).mp q) h) hf)) (fun h => kf (bf_t ((iLt_iff 0 a).mpr (Int32.not_le.mp h)) hf))
theorem lx_if_eq (hexec : p.tables.exec = Jvm.exec) (hb : c.code = cc) {a : Nat} {off : Int} {tgt : Nat} (hdg : decode cc pc = .ok (.ifCond .eq off, 3)) (ht : (pc : Int) + off = (tgt : Int)) (hf : (bif iEq a 0 then X else Y) = some r)
    (kt : X = some r → W p l e R s m args below meth c H locs cells slots Q (F0 m tgt ls rest)) (kf : Y = some r → W p l e R s m args below meth c H locs cells slots Q (F0 m (pc + 3) ls rest)) : W p l e R s m args below meth c H locs cells slots Q (F0 m pc ls (.int (nI a) :: rest)) :=
  lv_if_eq hexec hb hdg ht (fun h => kt (bf_t ((iEq_iff a 0).mpr h) hf)) (fun h => kf (bf_f (fun q => h ((iEq_iff a 0).mp q)) hf))
theorem lx_if_ne (hexec : p.tables.exec = Jvm.exec) (hb : c.code = cc) {a : Nat} {off : Int} {tgt : Nat} (hdg : decode cc pc = .ok (.ifCond .ne off, 3)) (ht : (pc : Int) + off = (tgt : Int)) (hf : (bif iEq a 0 then X else Y) = some r)
    (kt : Y = some r → W p l e R s m args below meth c H locs cells slots Q (F0 m tgt ls rest)) (kf : X = some r → W p l e R s m args below meth c H locs cells slots Q (F0 m (pc + 3) ls rest)) : W p l e R s m args below meth c H locs cells slots Q (F0 m pc ls (.int (nI a) :: rest)) :=
  lv_if_ne hexec hb hdg ht (fun h => kt (bf_f (fun q => h ((iEq_iff a 0).mp q)) hf)) (fun h => kf (bf_t ((iEq_iff a 0).mpr h) hf))
theorem nI_iMx (a b : Nat) : (if nI a < nI b then nI b else nI a) = nI (iMx a b) := by
  unfold iMx
  cases h : iLt a b with
  | true => rw [if_pos ((iLt_iff a b).mp h)]; rfl
  | false => rw [if_neg (fun q => by rw [(iLt_iff a b).mpr q] at h; cases h)]; rfl
theorem nI_iMn (a b : Nat) : (if nI b < nI a then nI b else nI a) = nI (iMn a b) := by
  unfold iMn
  cases h : iLt b a with
  | true => rw [if_pos ((iLt_iff b a).mp h)]; rfl
  | false => rw [if_neg (fun q => by rw [(iLt_iff b a).mpr q] at h; cases h)]; rfl
theorem lx_mmax (hexec : p.tables.exec = Jvm.exec) (hb : c.code = cc) (hml : c.maxLocals = ls.size) {own : String} {index : Nat} (hown : s.vm.findClass own = some m.cls) (hlink : (Cond.methodLink own index Lib.Math.max.name).before args s = true) (hstat : (Cond.static Lib.Math.max.name).before args s = true) (hini : (Cond.initialized "java/lang/Math").before args s = true) (hcode : (Cond.code Lib.Math.max.name Lib.Math.max.code 2 (some .int)).before args s = true)
    (hframes : 1 ≤ R.frames) (hlocals : (rest.map fun v => v.category).sum + 13 ≤ R.locals) (hc : cells ≤ R.cells) (hs : slots ≤ R.slots) {a b : Nat} (hdg : decode cc pc = .ok (.invokestatic index, 3))
    (kk : W p l e R s m args below meth c H locs cells slots Q (F0 m (pc + 3) ls (.int (nI (iMx a b)) :: rest))) : W p l e R s m args below meth c H locs cells slots Q (F0 m pc ls (.int (nI b) :: .int (nI a) :: rest)) :=
  va_mmax hexec hb hml hown hlink hstat hini hcode hframes hlocals hc hs hdg (by rw [nI_iMx]; exact kk)
theorem lx_mmin (hexec : p.tables.exec = Jvm.exec) (hb : c.code = cc) (hml : c.maxLocals = ls.size) {own : String} {index : Nat} (hown : s.vm.findClass own = some m.cls) (hlink : (Cond.methodLink own index Lib.Math.min.name).before args s = true) (hstat : (Cond.static Lib.Math.min.name).before args s = true) (hini : (Cond.initialized "java/lang/Math").before args s = true) (hcode : (Cond.code Lib.Math.min.name Lib.Math.min.code 2 (some .int)).before args s = true)
    (hframes : 1 ≤ R.frames) (hlocals : (rest.map fun v => v.category).sum + 13 ≤ R.locals) (hc : cells ≤ R.cells) (hs : slots ≤ R.slots) {a b : Nat} (hdg : decode cc pc = .ok (.invokestatic index, 3))
    (kk : W p l e R s m args below meth c H locs cells slots Q (F0 m (pc + 3) ls (.int (nI (iMn a b)) :: rest))) : W p l e R s m args below meth c H locs cells slots Q (F0 m pc ls (.int (nI b) :: .int (nI a) :: rest)) :=
  va_mmin hexec hb hml hown hlink hstat hini hcode hframes hlocals hc hs hdg (by rw [nI_iMn]; exact kk)
variable {D : va_G} {cl : List vw_C} {A : Nat → Prop} {a : Nat} {tys : List (ClassId × FieldType)} {ws : va_W} {H0 : Heap}
theorem lx_iald (hexec : p.tables.exec = Jvm.exec) (hb : c.code = cc) (hK : va_K D cl tys s) (hP : va_P D cl ws H) (q0 t0 : Nat) {cA : ClassId} {n O i : Nat} {f : Nat → Int32} (ha : ws[q0]? = some (a, .inl (cA, n, .inl (ar f O)))) (ht : tys[t0]? = some (cA, .int)) (hn : n < 2147483648) (hdg : decode cc pc = .ok (.iaload, 1)) {k : Nat → Option α} (hf : rd O n i k = some r)
    (kk : ∀ v : Nat, ag O i = v + 1 → k v = some r → W p l e R s m args below meth c H locs cells slots Q (F0 m (pc + 1) ls (.int (nI v) :: rest))) : W p l e R s m args below meth c H locs cells slots Q (F0 m pc ls (.int (nI i) :: .ref a :: rest)) := by
  obtain ⟨hi, v, hv, hf⟩ := rd_s hf
  refine va_iald hexec hb hK hP q0 t0 ha ht (vp_in_nI hi hn) hdg ?_
  rw [nI_clamp (by omega), ar_get f hv]
  exact kk v hv hf
theorem lx_iast (hexec : p.tables.exec = Jvm.exec) (hb : c.code = cc) (hK : va_K D cl tys s) (hP : va_P D cl ws H) (hD : va_D A ws) (hS : va_S A H0 H locs) (q0 t0 : Nat) {cA : ClassId} {n O i v : Nat} {f : Nat → Int32} (ha : ws[q0]? = some (a, .inl (cA, n, .inl (ar f O)))) (ht : tys[t0]? = some (cA, .int)) (hn : n < 2147483648) (hdg : decode cc pc = .ok (.iastore, 1)) (hf : (bif Nat.blt i n then X else none) = some r)
    (kk : X = some r → ∀ (H1 : Heap) (locs1 : List Loc), va_P D cl (ws.set q0 (a, .inl (cA, n, .inl (ar f (aw O i v))))) H1 → va_D A (ws.set q0 (a, .inl (cA, n, .inl (ar f (aw O i v))))) → va_S A H0 H1 locs1 → W p l e R s m args below meth c H1 locs1 cells slots Q (F0 m (pc + 1) ls rest)) : W p l e R s m args below meth c H locs cells slots Q (F0 m pc ls (.int (nI v) :: .int (nI i) :: .ref a :: rest)) := by
  obtain ⟨hi, hf⟩ := bf_in hf
  refine va_iast hexec hb hK hP hD hS q0 t0 ha ht (vp_in_nI hi hn) hdg (fun H1 locs1 => ?_)
  rw [nI_clamp (by omega), ar_up]
  exact kk hf H1 locs1
end
/-! calls: a uniform contract (the world's cells cs become cs', at the same addresses; nothing is made) -/
def ct_ups (ws : va_W) (zs : List (Nat × (Nat × va_E))) : va_W := zs.foldl (fun w z => w.set z.1 z.2) ws
theorem ct_ups_at (zs : List (Nat × (Nat × va_E))) : ∀ (ws : va_W) (k : Nat) (q : Nat × va_E), (ct_ups ws zs)[k]? = some q → (k, q) ∈ zs ∨ ((∀ z ∈ zs, z.1 ≠ k) ∧ ws[k]? = some q) := by
  induction zs with
  | nil => exact fun ws k q h => Or.inr ⟨fun z hz => (nomatch hz), h⟩
  | cons z zs ih =>
    intro ws k q h
    rcases ih (ws.set z.1 z.2) k q h with h1 | ⟨h1, h2⟩
    · exact Or.inl (List.mem_cons_of_mem _ h1)
    · by_cases hz : z.1 = k
      · rw [List.getElem?_set, if_pos hz] at h2
        by_cases hl : z.1 < ws.length
        · rw [if_pos hl] at h2
          have h3 := Option.some.inj h2
          subst hz
          subst h3
          exact Or.inl List.mem_cons_self
        · rw [if_neg hl] at h2
          cases h2
      · rw [List.getElem?_set, if_neg hz] at h2
        refine Or.inr ⟨fun y hy => ?_, h2⟩
        rcases List.mem_cons.mp hy with rfl | hy
        · exact hz
        · exact h1 y hy
theorem ct_D {A : Nat → Prop} {ws ws' : va_W} (hD : va_D A ws) (h : ws'.map (·.1) = ws.map (·.1)) : va_D A ws' := by
  have at' : ∀ (k : Nat) (q : Nat × va_E), ws'[k]? = some q → ∃ q0, ws[k]? = some q0 ∧ q0.1 = q.1 := by
    intro k q hq
    have h1 : (ws'.map (·.1))[k]? = some q.1 := by rw [List.getElem?_map, hq]; rfl
    rw [h, List.getElem?_map] at h1
    cases hw : ws[k]? with
    | none => rw [hw] at h1; cases h1
    | some q0 => rw [hw] at h1; exact ⟨q0, rfl, Option.some.inj h1⟩
  refine ⟨fun i j x y hx hy hxy => ?_, fun k q hq => ?_⟩
  · obtain ⟨x0, h1, h2⟩ := at' i x hx
    obtain ⟨y0, h3, h4⟩ := at' j y hy
    exact hD.1 i j x0 y0 h1 h3 (by rw [h2, h4, hxy])
  · obtain ⟨q0, h1, h2⟩ := at' k q hq
    rw [← h2]
    exact hD.2 k q0 h1
theorem ct_P {A : Nat → Prop} {D : va_G} {cl : List vw_C} {ws cs cs' : va_W} {H H1 : Heap} (hP : va_P D cl ws H) (hD : va_D A ws) (is : List Nat) (hC : is.map (fun i => ws[i]?) = cs.map some) (hl : is.length = cs'.length)
    (hk : ∀ q : Nat, q < H.size → ¬ va_A cs H.size q → H1[q]? = H[q]?) (hP1 : va_P D cl cs' H1) : va_P D cl (ct_ups ws (is.zip cs')) H1 := by
  intro k q hq
  rcases ct_ups_at _ ws k q hq with h | ⟨h1, h2⟩
  · obtain ⟨j, hj⟩ := List.getElem?_of_mem (List.of_mem_zip h).2
    exact hP1 j q hj
  · have hlt := (hP k q h2).lt
    refine (hP k q h2).kept (hk q.1 hlt (fun h => ?_))
    rcases h with ⟨j, e, h⟩ | h
    · have h3 : (is.map (fun i => ws[i]?))[j]? = some (some (q.1, e)) := by rw [hC, List.getElem?_map, h]; rfl
      rw [List.getElem?_map] at h3
      cases hi : is[j]? with
      | none => rw [hi] at h3; cases h3
      | some i =>
        rw [hi] at h3
        have h4 := hD.1 k i q (q.1, e) h2 (Option.some.inj h3) rfl
        subst h4
        obtain ⟨z, hz⟩ : ∃ z, cs'[j]? = some z := by
          have : j < cs'.length := by rw [← hl]; exact (List.getElem?_eq_some_iff.mp hi).1
          exact ⟨_, List.getElem?_eq_getElem this⟩
        have h5 : (is.zip cs')[j]? = some (k, z) := by
          rw [List.getElem?_zip_eq_some]
          exact ⟨hi, hz⟩
        exact h1 _ (List.mem_of_getElem? h5) rfl
    · omega
def ct_Q (D : va_G) (cl : List vw_C) (A : Nat → Prop) (cs' : va_W) (rv : Option Value) : Array Value → State → Outcome → State → Prop := fun _ st oc t => (oc = .returned rv ∧ va_P D cl cs' t.heap) ∧ va_F A st t
def ct_B (D : va_G) (cl : List vw_C) (tys : List (ClassId × FieldType)) (cs : va_W) (sz : Nat) : State → Prop := fun U => U.heap.size = sz ∧ va_P D cl cs U.heap ∧ va_K D cl tys U ∧ va_D (fun _ => True) cs
def Ct (l : Launch) (D : va_G) (cl : List vw_C) (y : MethodName) (ws : List Cond) (rm : Room) (tys : List (ClassId × FieldType)) (av : List Value) (cs cs' : va_W) (rv : Option Value) : Prop :=
  ∀ sz : Nat, Met l y ws rm (va_Pc av (ct_B D cl tys cs sz)) (ct_Q D cl (va_A cs sz) cs' rv) 0 0 (va_A cs sz)
section
variable {p : Program} {l : Launch} {e : Env} {R : Room} {s : State} {m : MethodId} {args : Array Value} {below : List Frame} {meth : Method} {c : Code} {H : Heap} {locs : List Loc} {cells slots : Nat} {Q : State → Prop}
variable {pc : Nat} {ls : Array Slot} {rest st0 : List Value} {A : Nat → Prop} {H0 : Heap} {D : va_G} {cl : List vw_C} {tys : List (ClassId × FieldType)} {ws ws' cs cs' : va_W} {rv : Option Value} {av : Array Value}
theorem ct_call (hr : va_Run p l e R s m args below meth c H locs cells slots 0 0 (F0 m pc ls st0) rest (ct_Q D cl (va_A cs H.size) cs' rv av) (va_A cs H.size)) (hP : va_P D cl ws H) (hD : va_D A ws) (hS : va_S A H0 H locs) (hA : ∀ q, H0.size ≤ q → A q) (is : List Nat) (hC : is.map (fun i => ws[i]?) = cs.map some) (hl : is.length = cs'.length) (hw : ct_ups ws (is.zip cs') = ws') (hm : ws'.map (·.1) = ws.map (·.1))
    (kk : ∀ (H1 : Heap) (locs1 : List Loc), va_P D cl ws' H1 → va_D A ws' → va_S A H0 H1 locs1 → W p l e R s m args below meth c H1 locs1 cells slots Q (F0 m (pc + 3) ls (rv.toList ++ rest))) : W p l e R s m args below meth c H locs cells slots Q (F0 m pc ls st0) := by
  intro T hT X
  have hF := va_free (wc := cs) hD hS hA is hC
  obtain ⟨v, st₀, t, T', L, h0, X', hL, e1, e2, ⟨⟨hv, hp⟩, hz, hk⟩, st⟩ := hr T hT X
  cases hv
  rw [h0] at hz hk
  have hP1 : va_P D cl ws' T'.heap := by
    rw [← hw]
    refine ct_P hP hD is hC hl (fun q h1 h2 => by rw [e1]; exact hk q h1 h2) (by rw [e1]; exact hp)
  obtain ⟨t2, a1, b1⟩ := kk T'.heap (locs ++ L) hP1 (ct_D hD hm)
    ⟨Nat.le_trans hS.1 (by rw [e1]; exact hz), fun q h1 h2 => by rw [e1, hk q (Nat.lt_of_lt_of_le h1 hS.1) (fun z => h2 (hF q z))]; exact hS.2.1 q h1 h2, fun q hq => by
      rcases List.mem_append.mp hq with h | h
      · exact hS.2.2 q h
      · exact hF _ (hL q h)⟩ T' rfl X'
  exact ⟨t2, st t2 a1, b1⟩
theorem ct_callr {v : Value} (hr : va_Run p l e R s m args below meth c H locs cells slots 0 0 (F0 m pc ls st0) rest (ct_Q D cl (va_A cs H.size) cs' (some v) av) (va_A cs H.size)) (hP : va_P D cl ws H) (hD : va_D A ws) (hS : va_S A H0 H locs) (hA : ∀ q, H0.size ≤ q → A q) (is : List Nat) (hC : is.map (fun i => ws[i]?) = cs.map some) (hl : is.length = cs'.length) (hw : ct_ups ws (is.zip cs') = ws') (hm : ws'.map (·.1) = ws.map (·.1))
    (kk : ∀ (H1 : Heap) (locs1 : List Loc), va_P D cl ws' H1 → va_D A ws' → va_S A H0 H1 locs1 → W p l e R s m args below meth c H1 locs1 cells slots Q (F0 m (pc + 3) ls (v :: rest))) : W p l e R s m args below meth c H locs cells slots Q (F0 m pc ls st0) :=
  ct_call hr hP hD hS hA is hC hl hw hm kk
theorem ct_callv (hr : va_Run p l e R s m args below meth c H locs cells slots 0 0 (F0 m pc ls st0) rest (ct_Q D cl (va_A cs H.size) cs' none av) (va_A cs H.size)) (hP : va_P D cl ws H) (hD : va_D A ws) (hS : va_S A H0 H locs) (hA : ∀ q, H0.size ≤ q → A q) (is : List Nat) (hC : is.map (fun i => ws[i]?) = cs.map some) (hl : is.length = cs'.length) (hw : ct_ups ws (is.zip cs') = ws') (hm : ws'.map (·.1) = ws.map (·.1))
    (kk : ∀ (H1 : Heap) (locs1 : List Loc), va_P D cl ws' H1 → va_D A ws' → va_S A H0 H1 locs1 → W p l e R s m args below meth c H1 locs1 cells slots Q (F0 m (pc + 3) ls rest)) : W p l e R s m args below meth c H locs cells slots Q (F0 m pc ls st0) :=
  ct_call hr hP hD hS hA is hC hl hw hm kk
theorem ct_blind (av : List Value) (cs : va_W) (sz : Nat) : FrameBlind (va_Pc av (ct_B D cl tys cs sz)) := fun _ U _ _ q => by
  obtain ⟨q0, q1, qP, qK, qD⟩ := q
  exact ⟨q0, q1, qP, va_K.moved (u := U) (Vm.Alike.refl U.vm) qK, qD⟩
theorem ct_pre (hP : va_P D cl ws H) (hD : va_D A ws) (hK : va_K D cl tys s) (is : List Nat) (hn : va_nd is = true) (hC : is.map (fun i => ws[i]?) = cs.map some) (av : List Value) : ∀ U : State, U.heap = H → s.WarmedH U.vm → va_Pc av (ct_B D cl tys cs H.size) av.toArray U := fun U hU hW => by
  refine ⟨rfl, by rw [hU], ?_, va_K.moved hW.alike hK, (hD.sub is hn hC).weaken (fun _ _ _ _ => trivial)⟩
  rw [hU]
  intro k q hq
  have h1 : (is.map (fun i => ws[i]?))[k]? = some (some q) := by rw [hC, List.getElem?_map, hq]; rfl
  rw [List.getElem?_map] at h1
  cases hi : is[k]? with
  | none => rw [hi] at h1; cases h1
  | some i => rw [hi] at h1; exact hP i q (Option.some.inj h1)
end
